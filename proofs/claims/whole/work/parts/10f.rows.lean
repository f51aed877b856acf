theorem iw_wsX6_carry_X6 : ∀ w ∈ wsX60, w ∈ wsX6_carry := fun _ h => List.mem_cons_of_mem _ (List.mem_append_left _ (List.mem_append_left _ (List.mem_append_left _ (List.mem_append_right _ h))))
theorem iw_wsX6_carry_X2 : ∀ w ∈ wsX20, w ∈ wsX6_carry := fun _ h => List.mem_cons_of_mem _ (List.mem_append_left _ (List.mem_append_left _ (List.mem_append_right _ h)))
theorem iw_wsX6_carry_X0 : ∀ w ∈ wsX00, w ∈ wsX6_carry := fun _ h => List.mem_cons_of_mem _ (List.mem_append_left _ (List.mem_append_right _ h))
theorem iw_wsX6_carry_X3 : ∀ w ∈ wsX30, w ∈ wsX6_carry := fun _ h => List.mem_cons_of_mem _ (List.mem_append_right _ h)
abbrev rm_BargeBasin_carry : Room := { frames := 3, cells := 0, slots := 0, locals := 67 }
set_option maxHeartbeats 4000000 in
set_option maxRecDepth 100000 in
theorem l_f_BargeBasin_carry_L28 {p : Program} {l : Launch} {e : Env} {s : State} {m : MethodId} {args : Array Value} {below : List Frame} {meth : Method} {c : Code} {Q : State → Prop} {A : Nat → Prop} {D : va_G} {cT : Nat → ClassId} {a_t a_lines a_chart a_trial a_log a_shelves a_shown a_lines_sort a_lines_size a_lines_numbers a_lines_carried a_chart_kind a_chart_place a_chart_length a_chart_gate a_chart_across a_chart_wide a_chart_high a_chart_shape a_log_moves : Nat} {z_search z_plan : Value} {k_shownCount : Int32} {k_status : Int32} {k_whyStep : Int32} {k_whyReason : Int32} {k_whyBarge : Int32} {k_lines_sort : Nat → Int32} {k_lines_size : Nat → Int32} {k_lines_numbers : Nat → Int32} {k_lines_carried : Nat → Int32} {k_chart_width : Int32} {k_chart_height : Int32} {k_chart_barges : Int32} {k_chart_walls : Int64} {k_chart_taken : Int64} {k_log_first : Int32} {k_log_done : Int32} {k_log_undone : Int32} {v1 : Int32} {v2 : Int32} {v3 : Int32} {v4 : Int32} {v5 : Int32} (hx : p.tables.exec = Jvm.exec) (hb : c.code = cX6_carry) (hml : c.maxLocals = 8) (hown : s.vm.findClass RX6 = some m.cls) (hts : ∀ w ∈ wsX6_carry, w.before args s = true) (hK : va_K D vwCl (jT cT) s) (hN : jNw s) (hA : ∀ q : Nat, s.heap.size ≤ q → A q) : ∀ (n : Nat) (v7 : Int32) (ex : (Unit) ⊕ (Unit)), f_BargeBasin_carry_L28 v1 v2 v3 v4 v5 k_lines_numbers k_chart_width k_chart_taken n v7 = some ex → ∀ (H : Heap) (locs : List Loc), va_P D vwCl [(a_t, .inr (6, [.ref a_lines, .ref a_chart, .ref a_trial, .ref a_log, .ref a_shelves, .ref a_shown, .int k_shownCount, .int k_status, .int k_whyStep, .int k_whyReason, .int k_whyBarge, z_search, z_plan])), (a_lines, .inr (2, [.ref a_lines_sort, .ref a_lines_size, .ref a_lines_numbers, .ref a_lines_carried])), (a_lines_sort, .inl (cT 0, 8, .inl k_lines_sort)), (a_lines_size, .inl (cT 0, 8, .inl k_lines_size)), (a_lines_numbers, .inl (cT 0, 64, .inl k_lines_numbers)), (a_lines_carried, .inl (cT 0, 8, .inl k_lines_carried)), (a_chart, .inr (0, [.int k_chart_width, .int k_chart_height, .int k_chart_barges, .long k_chart_walls, .long k_chart_taken, .ref a_chart_kind, .ref a_chart_place, .ref a_chart_length, .ref a_chart_gate, .ref a_chart_across, .ref a_chart_wide, .ref a_chart_high, .ref a_chart_shape])), (a_log, .inr (3, [.ref a_log_moves, .int k_log_first, .int k_log_done, .int k_log_undone]))] H → va_D A [(a_t, .inr (6, [.ref a_lines, .ref a_chart, .ref a_trial, .ref a_log, .ref a_shelves, .ref a_shown, .int k_shownCount, .int k_status, .int k_whyStep, .int k_whyReason, .int k_whyBarge, z_search, z_plan])), (a_lines, .inr (2, [.ref a_lines_sort, .ref a_lines_size, .ref a_lines_numbers, .ref a_lines_carried])), (a_lines_sort, .inl (cT 0, 8, .inl k_lines_sort)), (a_lines_size, .inl (cT 0, 8, .inl k_lines_size)), (a_lines_numbers, .inl (cT 0, 64, .inl k_lines_numbers)), (a_lines_carried, .inl (cT 0, 8, .inl k_lines_carried)), (a_chart, .inr (0, [.int k_chart_width, .int k_chart_height, .int k_chart_barges, .long k_chart_walls, .long k_chart_taken, .ref a_chart_kind, .ref a_chart_place, .ref a_chart_length, .ref a_chart_gate, .ref a_chart_across, .ref a_chart_wide, .ref a_chart_high, .ref a_chart_shape])), (a_log, .inr (3, [.ref a_log_moves, .int k_log_first, .int k_log_done, .int k_log_undone]))] → va_S A s.heap H locs → ∀ (ls : Array Slot), lv_has ls 8 [(0, .ref a_t), (1, .int v1), (2, .int v2), (3, .int v3), (4, .int v4), (5, .int v5), (7, .int v7)] → (ex = .inl (()) → ∀ (H : Heap) (locs : List Loc), va_P D vwCl [(a_t, .inr (6, [.ref a_lines, .ref a_chart, .ref a_trial, .ref a_log, .ref a_shelves, .ref a_shown, .int k_shownCount, .int k_status, .int k_whyStep, .int k_whyReason, .int k_whyBarge, z_search, z_plan])), (a_lines, .inr (2, [.ref a_lines_sort, .ref a_lines_size, .ref a_lines_numbers, .ref a_lines_carried])), (a_lines_sort, .inl (cT 0, 8, .inl k_lines_sort)), (a_lines_size, .inl (cT 0, 8, .inl k_lines_size)), (a_lines_numbers, .inl (cT 0, 64, .inl k_lines_numbers)), (a_lines_carried, .inl (cT 0, 8, .inl k_lines_carried)), (a_chart, .inr (0, [.int k_chart_width, .int k_chart_height, .int k_chart_barges, .long k_chart_walls, .long k_chart_taken, .ref a_chart_kind, .ref a_chart_place, .ref a_chart_length, .ref a_chart_gate, .ref a_chart_across, .ref a_chart_wide, .ref a_chart_high, .ref a_chart_shape])), (a_log, .inr (3, [.ref a_log_moves, .int k_log_first, .int k_log_done, .int k_log_undone]))] H → va_D A [(a_t, .inr (6, [.ref a_lines, .ref a_chart, .ref a_trial, .ref a_log, .ref a_shelves, .ref a_shown, .int k_shownCount, .int k_status, .int k_whyStep, .int k_whyReason, .int k_whyBarge, z_search, z_plan])), (a_lines, .inr (2, [.ref a_lines_sort, .ref a_lines_size, .ref a_lines_numbers, .ref a_lines_carried])), (a_lines_sort, .inl (cT 0, 8, .inl k_lines_sort)), (a_lines_size, .inl (cT 0, 8, .inl k_lines_size)), (a_lines_numbers, .inl (cT 0, 64, .inl k_lines_numbers)), (a_lines_carried, .inl (cT 0, 8, .inl k_lines_carried)), (a_chart, .inr (0, [.int k_chart_width, .int k_chart_height, .int k_chart_barges, .long k_chart_walls, .long k_chart_taken, .ref a_chart_kind, .ref a_chart_place, .ref a_chart_length, .ref a_chart_gate, .ref a_chart_across, .ref a_chart_wide, .ref a_chart_high, .ref a_chart_shape])), (a_log, .inr (3, [.ref a_log_moves, .int k_log_first, .int k_log_done, .int k_log_undone]))] → va_S A s.heap H locs → ∀ (ls : Array Slot), lv_has ls 8 [(0, .ref a_t)] → W p l e (headSpec wsX6_carry rm_BargeBasin_carry).room s m args below meth c H locs 0 0 Q (F0 m 66 ls [])) → (ex = .inr (()) → ∀ (H : Heap) (locs : List Loc), va_P D vwCl [(a_t, .inr (6, [.ref a_lines, .ref a_chart, .ref a_trial, .ref a_log, .ref a_shelves, .ref a_shown, .int k_shownCount, .int k_status, .int k_whyStep, .int k_whyReason, .int k_whyBarge, z_search, z_plan])), (a_lines, .inr (2, [.ref a_lines_sort, .ref a_lines_size, .ref a_lines_numbers, .ref a_lines_carried])), (a_lines_sort, .inl (cT 0, 8, .inl k_lines_sort)), (a_lines_size, .inl (cT 0, 8, .inl k_lines_size)), (a_lines_numbers, .inl (cT 0, 64, .inl k_lines_numbers)), (a_lines_carried, .inl (cT 0, 8, .inl k_lines_carried)), (a_chart, .inr (0, [.int k_chart_width, .int k_chart_height, .int k_chart_barges, .long k_chart_walls, .long k_chart_taken, .ref a_chart_kind, .ref a_chart_place, .ref a_chart_length, .ref a_chart_gate, .ref a_chart_across, .ref a_chart_wide, .ref a_chart_high, .ref a_chart_shape])), (a_log, .inr (3, [.ref a_log_moves, .int k_log_first, .int k_log_done, .int k_log_undone]))] H → va_D A [(a_t, .inr (6, [.ref a_lines, .ref a_chart, .ref a_trial, .ref a_log, .ref a_shelves, .ref a_shown, .int k_shownCount, .int k_status, .int k_whyStep, .int k_whyReason, .int k_whyBarge, z_search, z_plan])), (a_lines, .inr (2, [.ref a_lines_sort, .ref a_lines_size, .ref a_lines_numbers, .ref a_lines_carried])), (a_lines_sort, .inl (cT 0, 8, .inl k_lines_sort)), (a_lines_size, .inl (cT 0, 8, .inl k_lines_size)), (a_lines_numbers, .inl (cT 0, 64, .inl k_lines_numbers)), (a_lines_carried, .inl (cT 0, 8, .inl k_lines_carried)), (a_chart, .inr (0, [.int k_chart_width, .int k_chart_height, .int k_chart_barges, .long k_chart_walls, .long k_chart_taken, .ref a_chart_kind, .ref a_chart_place, .ref a_chart_length, .ref a_chart_gate, .ref a_chart_across, .ref a_chart_wide, .ref a_chart_high, .ref a_chart_shape])), (a_log, .inr (3, [.ref a_log_moves, .int k_log_first, .int k_log_done, .int k_log_undone]))] → va_S A s.heap H locs → ∀ (ls : Array Slot), lv_has ls 8 [(0, .ref a_t), (1, .int v1), (2, .int v2), (3, .int v3), (4, .int v4), (5, .int v5)] → W p l e (headSpec wsX6_carry rm_BargeBasin_carry).room s m args below meth c H locs 0 0 Q (F0 m 79 ls [])) → W p l e (headSpec wsX6_carry rm_BargeBasin_carry).room s m args below meth c H locs 0 0 Q (F0 m 28 ls []) := by
  intro n
  induction n with
  | zero => intro v7 ex hf; exact (ob_none hf).elim
  | succ n ih =>
    intro v7 ex hf H locs hP hD hS ls hl K0 K1
    rw [f_BargeBasin_carry_L28] at hf
    refine lv_iload hx hb dX6_carry_28 (lv_at hl 6 rfl) ?_
    refine lv_iload hx hb dX6_carry_30 (lv_at hl 5 rfl) ?_
    refine lv_icmp_ge (tgt := 79) hx hb dX6_carry_32 (by decide) (fun c_5 => ?_) (fun c_5 => ?_)
    · replace hf := ob_pos c_5 hf
      cases hf
      exact K1 rfl _ _ hP hD hS ls (lv_sub hl [0, 1, 2, 3, 4, 5] rfl)
    · replace hf := ob_neg c_5 hf
      refine lv_aload_n hx hb dX6_carry_35 rfl (lv_at hl 0 rfl) ?_
      refine va_get (D := D) (ci := 6) (v := .ref a_lines) (C := RX6) (T := TX6) (N := 13) hx hb hts iw_wsX6_carry_X6 hown hK hP 0 rfl rfl 0 (by decide) (hts (.fieldLink RX6 10 "BargeBasin" "lines" "LBargeBasin$Lines;") (List.mem_of_getElem? (i := 1) (by decide +kernel))) (fun _ h9 => h9) rfl dX6_carry_36 ?_
      refine lv_iload_n hx hb dX6_carry_39 rfl (lv_at hl 1 rfl) ?_
      refine lv_iload_n hx hb dX6_carry_40 rfl (lv_at hl 2 rfl) ?_
      refine lv_iload hx hb dX6_carry_41 (lv_at hl 6 rfl) ?_
      refine lv_iadd hx hb dX6_carry_43 ?_
      replace hf := ob_b hf
      obtain ⟨zr_6, hc_7, hf⟩ := hf
      refine vp_callSi (W.runV (As := [.int v1, .int (v2 + v7)]) (rest := []) ⟨hx, hb, hml, hown, hts⟩ (c_f_Lines_number l D cT a_lines a_lines_sort a_lines_size a_lines_numbers a_lines_carried k_lines_numbers v1 (v2 + v7) _ hc_7) (cwV 2 hts gX6_carry_X2_number rfl rfl rfl (by decide +kernel) ⟨Nat.le_of_ble_eq_true rfl, Nat.le_of_ble_eq_true rfl⟩) ⟨fun a U g mk q => by obtain ⟨q0, qP, qK, qN⟩ := q; exact ⟨q0, qP, va_K.moved (u := U) (U := U.calling g mk a) (Vm.Alike.refl U.vm) qK, jNw_same (u := U) (U := U.calling g mk a) rfl qN⟩, va_recv hK hP (ci := 2) (q0 := 1) rfl rfl, fun U hU hW => ⟨rfl, by rw [hU]; exact hP.sub [1, 4] rfl, va_K.moved hW.alike hK, jNw_warm hW hN⟩⟩ rfl rfl hl.1 rfl (lv_room (Nat.le_of_ble_eq_true rfl)) dX6_carry_44 ⟨Nat.le_of_ble_eq_true rfl, Nat.le_of_ble_eq_true rfl⟩) (fun r_6 er_8 => ?_)
      subst er_8
      refine lv_if_eq (tgt := 73) hx hb dX6_carry_47 (by decide) (fun c_9 => ?_) (fun c_9 => ?_)
      · replace hf := ob_pos c_9 hf
        obtain ⟨v7_10, ev7_10⟩ : ∃ y : Int32, y = v7 + 1 := ⟨_, rfl⟩
        replace hf := ob_nm ev7_10 hf
        refine lv_iinc (v := v7_10) (lv' := [(7, .int v7_10), (0, .ref a_t), (1, .int v1), (2, .int v2), (3, .int v3), (4, .int v4), (5, .int v5)]) hx hb dX6_carry_73 hl (k := 6) rfl (by rw [ev7_10]; rfl) (by decide) rfl (fun ls hl => ?_)
        refine lv_goto (tgt := 28) hx hb dX6_carry_76 (by decide) ?_
        exact ih _ ex hf _ _ hP hD hS ls (lv_sub hl [1, 2, 3, 4, 5, 6, 0] rfl) K0 K1
      · replace hf := ob_neg c_9 hf
        refine lv_aload_n hx hb dX6_carry_50 rfl (lv_at hl 0 rfl) ?_
        refine va_get (D := D) (ci := 6) (v := .ref a_chart) (C := RX6) (T := TX6) (N := 13) hx hb hts iw_wsX6_carry_X6 hown hK hP 0 rfl rfl 1 (by decide) (hts (.fieldLink RX6 19 "BargeBasin" "chart" "LBargeBasin$Chart;") (List.mem_of_getElem? (i := 2) (by decide +kernel))) (fun _ h9 => h9) rfl dX6_carry_51 ?_
        refine lv_iload hx hb dX6_carry_54 (lv_at hl 4 rfl) ?_
        refine lv_iload hx hb dX6_carry_56 (lv_at hl 6 rfl) ?_
        refine lv_iadd hx hb dX6_carry_58 ?_
        refine lv_iload_n hx hb dX6_carry_59 rfl (lv_at hl 3 rfl) ?_
        replace hf := ob_b hf
        obtain ⟨zr_11, hc_12, hf⟩ := hf
        refine vp_callSi (W.runV (As := [.int (v4 + v7), .int v3]) (rest := []) ⟨hx, hb, hml, hown, hts⟩ (c_f_Chart_isTaken l D cT a_chart a_chart_kind a_chart_place a_chart_length a_chart_gate a_chart_across a_chart_wide a_chart_high a_chart_shape k_chart_width k_chart_height k_chart_barges k_chart_walls k_chart_taken (v4 + v7) v3 _ hc_12) (cwV 2 hts gX6_carry_X0_isTaken rfl rfl rfl (by decide +kernel) ⟨Nat.le_of_ble_eq_true rfl, Nat.le_of_ble_eq_true rfl⟩) ⟨fun a U g mk q => by obtain ⟨q0, qP, qK, qN⟩ := q; exact ⟨q0, qP, va_K.moved (u := U) (U := U.calling g mk a) (Vm.Alike.refl U.vm) qK, jNw_same (u := U) (U := U.calling g mk a) rfl qN⟩, va_recv hK hP (ci := 0) (q0 := 6) rfl rfl, fun U hU hW => ⟨rfl, by rw [hU]; exact hP.sub [6] rfl, va_K.moved hW.alike hK, jNw_warm hW hN⟩⟩ rfl rfl hl.1 rfl (lv_room (Nat.le_of_ble_eq_true rfl)) dX6_carry_60 ⟨Nat.le_of_ble_eq_true rfl, Nat.le_of_ble_eq_true rfl⟩) (fun r_11 er_13 => ?_)
        subst er_13
        refine lv_if_eq (tgt := 73) hx hb dX6_carry_63 (by decide) (fun c_14 => ?_) (fun c_14 => ?_)
        · replace hf := ob_pos c_14 hf
          obtain ⟨v7_15, ev7_15⟩ : ∃ y : Int32, y = v7 + 1 := ⟨_, rfl⟩
          replace hf := ob_nm ev7_15 hf
          refine lv_iinc (v := v7_15) (lv' := [(7, .int v7_15), (0, .ref a_t), (1, .int v1), (2, .int v2), (3, .int v3), (4, .int v4), (5, .int v5)]) hx hb dX6_carry_73 hl (k := 6) rfl (by rw [ev7_15]; rfl) (by decide) rfl (fun ls hl => ?_)
          refine lv_goto (tgt := 28) hx hb dX6_carry_76 (by decide) ?_
          exact ih _ ex hf _ _ hP hD hS ls (lv_sub hl [1, 2, 3, 4, 5, 6, 0] rfl) K0 K1
        · replace hf := ob_neg c_14 hf
          cases hf
          exact K0 rfl _ _ hP hD hS ls (lv_sub hl [0] rfl)
set_option maxHeartbeats 4000000 in
set_option maxRecDepth 100000 in
theorem c_f_BargeBasin_carry (l : Launch) (D : va_G) (cT : Nat → ClassId) (sz : Nat) (a_t a_lines a_chart a_trial a_log a_shelves a_shown a_lines_sort a_lines_size a_lines_numbers a_lines_carried a_chart_kind a_chart_place a_chart_length a_chart_gate a_chart_across a_chart_wide a_chart_high a_chart_shape a_log_moves : Nat) (z_search z_plan : Value) (k_shownCount : Int32) (k_status : Int32) (k_whyStep : Int32) (k_whyReason : Int32) (k_whyBarge : Int32) (k_lines_sort : Nat → Int32) (k_lines_size : Nat → Int32) (k_lines_numbers : Nat → Int32) (k_lines_carried : Nat → Int32) (k_chart_width : Int32) (k_chart_height : Int32) (k_chart_barges : Int32) (k_chart_walls : Int64) (k_chart_taken : Int64) (k_log_first : Int32) (k_log_done : Int32) (k_log_undone : Int32) (v1 : Int32) (v2 : Int32) (v3 : Int32) (v4 : Int32) (v5 : Int32) (r0 : Int32) (k_status₉ : Int32) (k_lines_numbers₉ : Nat → Int32) (k_lines_carried₉ : Nat → Int32) (k_chart_walls₉ : Int64) (k_log_done₉ : Int32) (k_log_undone₉ : Int32) (hf : f_BargeBasin_carry v1 v2 v3 v4 v5 k_status k_lines_sort k_lines_size k_lines_numbers k_lines_carried k_chart_width k_chart_height k_chart_walls k_chart_taken k_log_done k_log_undone = some (r0, k_status₉, k_lines_numbers₉, k_lines_carried₉, k_chart_walls₉, k_log_done₉, k_log_undone₉)) : Met l yX6_carry wsX6_carry rm_BargeBasin_carry (va_Pc [.ref a_t, .int v1, .int v2, .int v3, .int v4, .int v5] (fun U => U.heap.size = sz ∧ va_P D vwCl [(a_t, .inr (6, [.ref a_lines, .ref a_chart, .ref a_trial, .ref a_log, .ref a_shelves, .ref a_shown, .int k_shownCount, .int k_status, .int k_whyStep, .int k_whyReason, .int k_whyBarge, z_search, z_plan])), (a_lines, .inr (2, [.ref a_lines_sort, .ref a_lines_size, .ref a_lines_numbers, .ref a_lines_carried])), (a_lines_sort, .inl (cT 0, 8, .inl k_lines_sort)), (a_lines_size, .inl (cT 0, 8, .inl k_lines_size)), (a_lines_numbers, .inl (cT 0, 64, .inl k_lines_numbers)), (a_lines_carried, .inl (cT 0, 8, .inl k_lines_carried)), (a_chart, .inr (0, [.int k_chart_width, .int k_chart_height, .int k_chart_barges, .long k_chart_walls, .long k_chart_taken, .ref a_chart_kind, .ref a_chart_place, .ref a_chart_length, .ref a_chart_gate, .ref a_chart_across, .ref a_chart_wide, .ref a_chart_high, .ref a_chart_shape])), (a_log, .inr (3, [.ref a_log_moves, .int k_log_first, .int k_log_done, .int k_log_undone]))] U.heap ∧ va_K D vwCl (jT cT) U ∧ jNw U ∧ va_D (fun _ => True) [(a_t, .inr (6, [.ref a_lines, .ref a_chart, .ref a_trial, .ref a_log, .ref a_shelves, .ref a_shown, .int k_shownCount, .int k_status, .int k_whyStep, .int k_whyReason, .int k_whyBarge, z_search, z_plan])), (a_lines, .inr (2, [.ref a_lines_sort, .ref a_lines_size, .ref a_lines_numbers, .ref a_lines_carried])), (a_lines_sort, .inl (cT 0, 8, .inl k_lines_sort)), (a_lines_size, .inl (cT 0, 8, .inl k_lines_size)), (a_lines_numbers, .inl (cT 0, 64, .inl k_lines_numbers)), (a_lines_carried, .inl (cT 0, 8, .inl k_lines_carried)), (a_chart, .inr (0, [.int k_chart_width, .int k_chart_height, .int k_chart_barges, .long k_chart_walls, .long k_chart_taken, .ref a_chart_kind, .ref a_chart_place, .ref a_chart_length, .ref a_chart_gate, .ref a_chart_across, .ref a_chart_wide, .ref a_chart_high, .ref a_chart_shape])), (a_log, .inr (3, [.ref a_log_moves, .int k_log_first, .int k_log_done, .int k_log_undone]))])) (va_Qi (fun r (_ : Unit) => r = r0) (fun (_ : Unit) t => va_P D vwCl [(a_t, .inr (6, [.ref a_lines, .ref a_chart, .ref a_trial, .ref a_log, .ref a_shelves, .ref a_shown, .int k_shownCount, .int k_status₉, .int k_whyStep, .int k_whyReason, .int k_whyBarge, z_search, z_plan])), (a_lines, .inr (2, [.ref a_lines_sort, .ref a_lines_size, .ref a_lines_numbers, .ref a_lines_carried])), (a_lines_sort, .inl (cT 0, 8, .inl k_lines_sort)), (a_lines_size, .inl (cT 0, 8, .inl k_lines_size)), (a_lines_numbers, .inl (cT 0, 64, .inl k_lines_numbers₉)), (a_lines_carried, .inl (cT 0, 8, .inl k_lines_carried₉)), (a_chart, .inr (0, [.int k_chart_width, .int k_chart_height, .int k_chart_barges, .long k_chart_walls₉, .long k_chart_taken, .ref a_chart_kind, .ref a_chart_place, .ref a_chart_length, .ref a_chart_gate, .ref a_chart_across, .ref a_chart_wide, .ref a_chart_high, .ref a_chart_shape])), (a_log, .inr (3, [.ref a_log_moves, .int k_log_first, .int k_log_done₉, .int k_log_undone₉]))] t.heap ∧ va_K D vwCl (jT cT) t ∧ va_D (va_A [(a_t, .inr (6, [.ref a_lines, .ref a_chart, .ref a_trial, .ref a_log, .ref a_shelves, .ref a_shown, .int k_shownCount, .int k_status, .int k_whyStep, .int k_whyReason, .int k_whyBarge, z_search, z_plan])), (a_lines, .inr (2, [.ref a_lines_sort, .ref a_lines_size, .ref a_lines_numbers, .ref a_lines_carried])), (a_lines_sort, .inl (cT 0, 8, .inl k_lines_sort)), (a_lines_size, .inl (cT 0, 8, .inl k_lines_size)), (a_lines_numbers, .inl (cT 0, 64, .inl k_lines_numbers)), (a_lines_carried, .inl (cT 0, 8, .inl k_lines_carried)), (a_chart, .inr (0, [.int k_chart_width, .int k_chart_height, .int k_chart_barges, .long k_chart_walls, .long k_chart_taken, .ref a_chart_kind, .ref a_chart_place, .ref a_chart_length, .ref a_chart_gate, .ref a_chart_across, .ref a_chart_wide, .ref a_chart_high, .ref a_chart_shape])), (a_log, .inr (3, [.ref a_log_moves, .int k_log_first, .int k_log_done, .int k_log_undone]))] sz) [(a_t, .inr (6, [.ref a_lines, .ref a_chart, .ref a_trial, .ref a_log, .ref a_shelves, .ref a_shown, .int k_shownCount, .int k_status₉, .int k_whyStep, .int k_whyReason, .int k_whyBarge, z_search, z_plan])), (a_lines, .inr (2, [.ref a_lines_sort, .ref a_lines_size, .ref a_lines_numbers, .ref a_lines_carried])), (a_lines_sort, .inl (cT 0, 8, .inl k_lines_sort)), (a_lines_size, .inl (cT 0, 8, .inl k_lines_size)), (a_lines_numbers, .inl (cT 0, 64, .inl k_lines_numbers₉)), (a_lines_carried, .inl (cT 0, 8, .inl k_lines_carried₉)), (a_chart, .inr (0, [.int k_chart_width, .int k_chart_height, .int k_chart_barges, .long k_chart_walls₉, .long k_chart_taken, .ref a_chart_kind, .ref a_chart_place, .ref a_chart_length, .ref a_chart_gate, .ref a_chart_across, .ref a_chart_wide, .ref a_chart_high, .ref a_chart_shape])), (a_log, .inr (3, [.ref a_log_moves, .int k_log_first, .int k_log_done₉, .int k_log_undone₉]))]) (va_A [(a_t, .inr (6, [.ref a_lines, .ref a_chart, .ref a_trial, .ref a_log, .ref a_shelves, .ref a_shown, .int k_shownCount, .int k_status, .int k_whyStep, .int k_whyReason, .int k_whyBarge, z_search, z_plan])), (a_lines, .inr (2, [.ref a_lines_sort, .ref a_lines_size, .ref a_lines_numbers, .ref a_lines_carried])), (a_lines_sort, .inl (cT 0, 8, .inl k_lines_sort)), (a_lines_size, .inl (cT 0, 8, .inl k_lines_size)), (a_lines_numbers, .inl (cT 0, 64, .inl k_lines_numbers)), (a_lines_carried, .inl (cT 0, 8, .inl k_lines_carried)), (a_chart, .inr (0, [.int k_chart_width, .int k_chart_height, .int k_chart_barges, .long k_chart_walls, .long k_chart_taken, .ref a_chart_kind, .ref a_chart_place, .ref a_chart_length, .ref a_chart_gate, .ref a_chart_across, .ref a_chart_wide, .ref a_chart_high, .ref a_chart_shape])), (a_log, .inr (3, [.ref a_log_moves, .int k_log_first, .int k_log_done, .int k_log_undone]))] sz)) 0 0 (va_A [(a_t, .inr (6, [.ref a_lines, .ref a_chart, .ref a_trial, .ref a_log, .ref a_shelves, .ref a_shown, .int k_shownCount, .int k_status, .int k_whyStep, .int k_whyReason, .int k_whyBarge, z_search, z_plan])), (a_lines, .inr (2, [.ref a_lines_sort, .ref a_lines_size, .ref a_lines_numbers, .ref a_lines_carried])), (a_lines_sort, .inl (cT 0, 8, .inl k_lines_sort)), (a_lines_size, .inl (cT 0, 8, .inl k_lines_size)), (a_lines_numbers, .inl (cT 0, 64, .inl k_lines_numbers)), (a_lines_carried, .inl (cT 0, 8, .inl k_lines_carried)), (a_chart, .inr (0, [.int k_chart_width, .int k_chart_height, .int k_chart_barges, .long k_chart_walls, .long k_chart_taken, .ref a_chart_kind, .ref a_chart_place, .ref a_chart_length, .ref a_chart_gate, .ref a_chart_across, .ref a_chart_wide, .ref a_chart_high, .ref a_chart_shape])), (a_log, .inr (3, [.ref a_log_moves, .int k_log_first, .int k_log_done, .int k_log_undone]))] sz) := by
  refine Met.ofW (cc := cX6_carry) (maxL := 8) (ret := (some .boolean)) (by decide) rfl ?_
  intro p e s m args below meth c s₁ B hml hv
  obtain ⟨rfl, hsz, hP, hK, hN, hD0⟩ := hv
  have hx := B.exec
  have hb := B.bytes
  have hr := B.returns
  have hts := atoms_spec (ws := wsX6_carry) B.pre
  have hown : s.vm.findClass RX6 = some m.cls := findClass_of_methodNamed B.named
  have hlocks := B.notSynchronized
  subst hsz
  have hD := hD0.self (sz := s.heap.size)
  clear hD0
  generalize hAe : va_A [(a_t, .inr (6, [.ref a_lines, .ref a_chart, .ref a_trial, .ref a_log, .ref a_shelves, .ref a_shown, .int k_shownCount, .int k_status, .int k_whyStep, .int k_whyReason, .int k_whyBarge, z_search, z_plan])), (a_lines, .inr (2, [.ref a_lines_sort, .ref a_lines_size, .ref a_lines_numbers, .ref a_lines_carried])), (a_lines_sort, .inl (cT 0, 8, .inl k_lines_sort)), (a_lines_size, .inl (cT 0, 8, .inl k_lines_size)), (a_lines_numbers, .inl (cT 0, 64, .inl k_lines_numbers)), (a_lines_carried, .inl (cT 0, 8, .inl k_lines_carried)), (a_chart, .inr (0, [.int k_chart_width, .int k_chart_height, .int k_chart_barges, .long k_chart_walls, .long k_chart_taken, .ref a_chart_kind, .ref a_chart_place, .ref a_chart_length, .ref a_chart_gate, .ref a_chart_across, .ref a_chart_wide, .ref a_chart_high, .ref a_chart_shape])), (a_log, .inr (3, [.ref a_log_moves, .int k_log_first, .int k_log_done, .int k_log_undone]))] s.heap.size = A at hD ⊢
  have hA : ∀ q : Nat, s.heap.size ≤ q → A q := fun q h => by rw [← hAe]; exact Or.inr h
  clear hAe
  have hl := lv_entry ([.ref a_t, .int v1, .int v2, .int v3, .int v4, .int v5]) (n := 8) (Nat.le_of_ble_eq_true rfl)
  rw [lg_entry_eq]
  generalize (lg_sl ([.ref a_t, .int v1, .int v2, .int v3, .int v4, .int v5]) ++ List.replicate (8 - (lg_sl ([.ref a_t, .int v1, .int v2, .int v3, .int v4, .int v5])).length) Slot.unset).toArray = ls at hl ⊢
  have hl : lv_has ls 8 [(0, .ref a_t), (1, .int v1), (2, .int v2), (3, .int v3), (4, .int v4), (5, .int v5)] := hl
  refine j_start (A := A) hP (fun H locs hP hS => ?_)
  unfold f_BargeBasin_carry at hf
  refine lv_aload_n hx hb dX6_carry_0 rfl (lv_at hl 0 rfl) ?_
  refine lv_iload_n hx hb dX6_carry_1 rfl (lv_at hl 1 rfl) ?_
  refine lv_iload_n hx hb dX6_carry_2 rfl (lv_at hl 2 rfl) ?_
  refine lv_iload_n hx hb dX6_carry_3 rfl (lv_at hl 3 rfl) ?_
  refine lv_iload hx hb dX6_carry_4 (lv_at hl 4 rfl) ?_
  refine lv_iload hx hb dX6_carry_6 (lv_at hl 5 rfl) ?_
  replace hf := ob_b hf
  obtain ⟨zr_1, hc_2, hf⟩ := hf
  refine vp_callSi (W.runV (As := [.int v1, .int v2, .int v3, .int v4, .int v5]) (rest := []) ⟨hx, hb, hml, hown, hts⟩ (c_f_BargeBasin_faultOfCarry l D cT a_t a_lines a_chart a_trial a_log a_shelves a_shown a_lines_sort a_lines_size a_lines_numbers a_lines_carried a_chart_kind a_chart_place a_chart_length a_chart_gate a_chart_across a_chart_wide a_chart_high a_chart_shape z_search z_plan k_shownCount k_status k_whyStep k_whyReason k_whyBarge k_lines_sort k_lines_size k_chart_width k_chart_height k_chart_barges k_chart_walls k_chart_taken v1 v2 v3 v4 v5 _ hc_2) (cwV 5 hts gX6_carry_X6_faultOfCarry rfl rfl rfl (by decide +kernel) ⟨Nat.le_of_ble_eq_true rfl, Nat.le_of_ble_eq_true rfl⟩) ⟨fun a U g mk q => by obtain ⟨q0, qP, qK, qN⟩ := q; exact ⟨q0, qP, va_K.moved (u := U) (U := U.calling g mk a) (Vm.Alike.refl U.vm) qK, jNw_same (u := U) (U := U.calling g mk a) rfl qN⟩, va_recv hK hP (ci := 6) (q0 := 0) rfl rfl, fun U hU hW => ⟨rfl, by rw [hU]; exact hP.sub [0, 1, 2, 3, 6] rfl, va_K.moved hW.alike hK, jNw_warm hW hN⟩⟩ rfl rfl hl.1 rfl (lv_room (Nat.le_of_ble_eq_true rfl)) dX6_carry_8 ⟨Nat.le_of_ble_eq_true rfl, Nat.le_of_ble_eq_true rfl⟩) (fun r_1 er_3 => ?_)
  subst er_3
  refine lv_istore (lv' := [(6, .int r_1), (0, .ref a_t), (1, .int v1), (2, .int v2), (3, .int v3), (4, .int v4), (5, .int v5)]) hx hb dX6_carry_11 hl (by decide) rfl (fun ls hl => ?_)
  refine lv_iload hx hb dX6_carry_13 (lv_at hl 0 rfl) ?_
  refine lv_if_eq (tgt := 25) hx hb dX6_carry_15 (by decide) (fun c_4 => ?_) (fun c_4 => ?_)
  · replace hf := ob_pos c_4 hf
    refine lv_iconst (v := 0) hx hb dX6_carry_25 (by decide) ?_
    refine lv_istore (lv' := [(7, .int ((0 : Int32))), (6, .int r_1), (0, .ref a_t), (1, .int v1), (2, .int v2), (3, .int v3), (4, .int v4), (5, .int v5)]) hx hb dX6_carry_26 hl (by decide) rfl (fun ls hl => ?_)
    replace hf := ob_b hf
    obtain ⟨ex_16, hq_17, hf⟩ := hf
    refine l_f_BargeBasin_carry_L28 hx hb hml hown hts hK hN hA jN _ ex_16 hq_17 _ _ hP hD hS ls (lv_sub hl [2, 3, 4, 5, 6, 7, 0] rfl) (fun ee_23 H locs hP hD hS ls hl => ?_) (fun ee_36 H locs hP hD hS ls hl => ?_)
    · subst ee_23
      replace hf := ob_inl hf
      replace hf := ob_un0 hf
      refine lv_aload_n hx hb dX6_carry_66 rfl (lv_at hl 0 rfl) ?_
      refine lv_bipush (v := 7) hx hb dX6_carry_67 (by decide) ?_
      replace hf := ob_b hf
      obtain ⟨⟨zr_18, k_status_19⟩, hc_20, hf⟩ := hf
      replace hf := ob_un2 hf
      have hPc := hP.sub (ws' := [(a_t, .inr (6, [.ref a_lines, .ref a_chart, .ref a_trial, .ref a_log, .ref a_shelves, .ref a_shown, .int k_shownCount, .int k_status, .int k_whyStep, .int k_whyReason, .int k_whyBarge, z_search, z_plan]))]) [0] rfl
      have hDc := hD.sub (ws' := [(a_t, .inr (6, [.ref a_lines, .ref a_chart, .ref a_trial, .ref a_log, .ref a_shelves, .ref a_shown, .int k_shownCount, .int k_status, .int k_whyStep, .int k_whyReason, .int k_whyBarge, z_search, z_plan]))]) [0] (by decide) rfl
      have hFc := va_free (wc := [(a_t, .inr (6, [.ref a_lines, .ref a_chart, .ref a_trial, .ref a_log, .ref a_shelves, .ref a_shown, .int k_shownCount, .int k_status, .int k_whyStep, .int k_whyReason, .int k_whyBarge, z_search, z_plan]))]) hD hS hA [0] rfl
      refine va_calli (va_runV (As := [.int ((7 : Int32))]) (rest := []) ⟨hx, hb, hml, hown, hts⟩ (c_f_BargeBasin_deny l D cT H.size a_t a_lines a_chart a_trial a_log a_shelves a_shown z_search z_plan k_shownCount k_status k_whyStep k_whyReason k_whyBarge ((7 : Int32)) _ _ hc_20) (cwV 1 hts gX6_carry_X6_deny rfl rfl rfl (by decide +kernel) ⟨Nat.le_of_ble_eq_true rfl, Nat.le_of_ble_eq_true rfl⟩) ⟨fun a U g mk q => by obtain ⟨q0, q1, qP, qK, qN, qD⟩ := q; exact ⟨q0, q1, qP, va_K.moved (u := U) (U := U.calling g mk a) (Vm.Alike.refl U.vm) qK, jNw_same (u := U) (U := U.calling g mk a) rfl qN, qD⟩, va_recv hK hP (ci := 6) (q0 := 0) rfl rfl, fun U hU hW => ⟨rfl, by rw [hU], by rw [hU]; exact hPc, va_K.moved hW.alike hK, jNw_warm hW hN, hDc.weaken (fun _ _ _ _ => trivial)⟩⟩ rfl rfl hl.1 rfl (lv_room (Nat.le_of_ble_eq_true rfl)) dX6_carry_69 ⟨Nat.le_of_ble_eq_true rfl, Nat.le_of_ble_eq_true rfl⟩) hS (fun q _ h => hFc q h) hFc (fun r_18 u t H1 locs ht hvm er_21 hB hz1 hk1 hS => ?_)
      subst er_21
      obtain ⟨hP1, hK1, hD1⟩ := hB
      rw [ht] at hP1
      have hPD := va_join (wr := [(a_lines, .inr (2, [.ref a_lines_sort, .ref a_lines_size, .ref a_lines_numbers, .ref a_lines_carried])), (a_lines_sort, .inl (cT 0, 8, .inl k_lines_sort)), (a_lines_size, .inl (cT 0, 8, .inl k_lines_size)), (a_lines_numbers, .inl (cT 0, 64, .inl k_lines_numbers)), (a_lines_carried, .inl (cT 0, 8, .inl k_lines_carried)), (a_chart, .inr (0, [.int k_chart_width, .int k_chart_height, .int k_chart_barges, .long k_chart_walls, .long k_chart_taken, .ref a_chart_kind, .ref a_chart_place, .ref a_chart_length, .ref a_chart_gate, .ref a_chart_across, .ref a_chart_wide, .ref a_chart_high, .ref a_chart_shape])), (a_log, .inr (3, [.ref a_log_moves, .int k_log_first, .int k_log_done, .int k_log_undone]))]) (w1 := [(a_t, .inr (6, [.ref a_lines, .ref a_chart, .ref a_trial, .ref a_log, .ref a_shelves, .ref a_shown, .int k_shownCount, .int k_status_19, .int k_whyStep, .int k_whyReason, .int k_whyBarge, z_search, z_plan]))]) hP hD [0] [1, 2, 3, 4, 5, 6, 7] rfl rfl (by decide) (by decide) hk1 hFc hP1 hD1
      clear hP hD
      obtain ⟨hP, hD⟩ := hPD
      replace hP := hP.sub (ws' := [(a_t, .inr (6, [.ref a_lines, .ref a_chart, .ref a_trial, .ref a_log, .ref a_shelves, .ref a_shown, .int k_shownCount, .int k_status_19, .int k_whyStep, .int k_whyReason, .int k_whyBarge, z_search, z_plan])), (a_lines, .inr (2, [.ref a_lines_sort, .ref a_lines_size, .ref a_lines_numbers, .ref a_lines_carried])), (a_lines_sort, .inl (cT 0, 8, .inl k_lines_sort)), (a_lines_size, .inl (cT 0, 8, .inl k_lines_size)), (a_lines_numbers, .inl (cT 0, 64, .inl k_lines_numbers)), (a_lines_carried, .inl (cT 0, 8, .inl k_lines_carried)), (a_chart, .inr (0, [.int k_chart_width, .int k_chart_height, .int k_chart_barges, .long k_chart_walls, .long k_chart_taken, .ref a_chart_kind, .ref a_chart_place, .ref a_chart_length, .ref a_chart_gate, .ref a_chart_across, .ref a_chart_wide, .ref a_chart_high, .ref a_chart_shape])), (a_log, .inr (3, [.ref a_log_moves, .int k_log_first, .int k_log_done, .int k_log_undone]))]) [7, 0, 1, 2, 3, 4, 5, 6] rfl
      replace hD := hD.sub (ws' := [(a_t, .inr (6, [.ref a_lines, .ref a_chart, .ref a_trial, .ref a_log, .ref a_shelves, .ref a_shown, .int k_shownCount, .int k_status_19, .int k_whyStep, .int k_whyReason, .int k_whyBarge, z_search, z_plan])), (a_lines, .inr (2, [.ref a_lines_sort, .ref a_lines_size, .ref a_lines_numbers, .ref a_lines_carried])), (a_lines_sort, .inl (cT 0, 8, .inl k_lines_sort)), (a_lines_size, .inl (cT 0, 8, .inl k_lines_size)), (a_lines_numbers, .inl (cT 0, 64, .inl k_lines_numbers)), (a_lines_carried, .inl (cT 0, 8, .inl k_lines_carried)), (a_chart, .inr (0, [.int k_chart_width, .int k_chart_height, .int k_chart_barges, .long k_chart_walls, .long k_chart_taken, .ref a_chart_kind, .ref a_chart_place, .ref a_chart_length, .ref a_chart_gate, .ref a_chart_across, .ref a_chart_wide, .ref a_chart_high, .ref a_chart_shape])), (a_log, .inr (3, [.ref a_log_moves, .int k_log_first, .int k_log_done, .int k_log_undone]))]) [7, 0, 1, 2, 3, 4, 5, 6] (by decide) rfl
      clear hPc hDc hFc hP1 hK1 hD1 hk1 hz1
      generalize H1 = H at hP hS ⊢
      replace hf := ob_bool hf
      obtain ⟨hz_22, hf⟩ := hf
      replace hf := ob_t7 hf
      obtain ⟨ee0, ee1, ee2, ee3, ee4, ee5, ee6⟩ := hf
      subst ee0
      subst ee1
      subst ee2
      subst ee3
      subst ee4
      subst ee5
      subst ee6
      exact W.zret hx hb hr hz_22 (fun t ht hW => ⟨⟨_, (), rfl, rfl, by rw [ht]; exact hP, va_K.moved hW.alike hK, hD⟩, hS.F ht⟩) hS.2.2 dX6_carry_72
    · subst ee_36
      replace hf := ob_inr hf
      replace hf := ob_un0 hf
      refine lv_aload_n hx hb dX6_carry_79 rfl (lv_at hl 0 rfl) ?_
      refine va_get (D := D) (ci := 6) (v := .ref a_lines) (C := RX6) (T := TX6) (N := 13) hx hb hts iw_wsX6_carry_X6 hown hK hP 0 rfl rfl 0 (by decide) (hts (.fieldLink RX6 10 "BargeBasin" "lines" "LBargeBasin$Lines;") (List.mem_of_getElem? (i := 1) (by decide +kernel))) (fun _ h9 => h9) rfl dX6_carry_80 ?_
      refine lv_iload_n hx hb dX6_carry_83 rfl (lv_at hl 1 rfl) ?_
      refine lv_iload_n hx hb dX6_carry_84 rfl (lv_at hl 2 rfl) ?_
      refine lv_iload_n hx hb dX6_carry_85 rfl (lv_at hl 3 rfl) ?_
      refine lv_iload hx hb dX6_carry_86 (lv_at hl 4 rfl) ?_
      refine lv_iload hx hb dX6_carry_88 (lv_at hl 5 rfl) ?_
      replace hf := ob_b hf
      obtain ⟨⟨k_lines_numbers_24, k_lines_carried_25⟩, hc_26, hf⟩ := hf
      replace hf := ob_un2 hf
      have hPc := hP.sub (ws' := [(a_lines, .inr (2, [.ref a_lines_sort, .ref a_lines_size, .ref a_lines_numbers, .ref a_lines_carried])), (a_lines_numbers, .inl (cT 0, 64, .inl k_lines_numbers)), (a_lines_carried, .inl (cT 0, 8, .inl k_lines_carried))]) [1, 4, 5] rfl
      have hDc := hD.sub (ws' := [(a_lines, .inr (2, [.ref a_lines_sort, .ref a_lines_size, .ref a_lines_numbers, .ref a_lines_carried])), (a_lines_numbers, .inl (cT 0, 64, .inl k_lines_numbers)), (a_lines_carried, .inl (cT 0, 8, .inl k_lines_carried))]) [1, 4, 5] (by decide) rfl
      have hFc := va_free (wc := [(a_lines, .inr (2, [.ref a_lines_sort, .ref a_lines_size, .ref a_lines_numbers, .ref a_lines_carried])), (a_lines_numbers, .inl (cT 0, 64, .inl k_lines_numbers)), (a_lines_carried, .inl (cT 0, 8, .inl k_lines_carried))]) hD hS hA [1, 4, 5] rfl
      refine va_callv (va_runV (As := [.int v1, .int v2, .int v3, .int v4, .int v5]) (rest := []) ⟨hx, hb, hml, hown, hts⟩ (c_f_Lines_copy l D cT H.size a_lines a_lines_sort a_lines_size a_lines_numbers a_lines_carried k_lines_numbers k_lines_carried v1 v2 v3 v4 v5 _ _ hc_26) (cwV 5 hts gX6_carry_X2_copy rfl rfl rfl (by decide +kernel) ⟨Nat.le_of_ble_eq_true rfl, Nat.le_of_ble_eq_true rfl⟩) ⟨fun a U g mk q => by obtain ⟨q0, q1, qP, qK, qN, qD⟩ := q; exact ⟨q0, q1, qP, va_K.moved (u := U) (U := U.calling g mk a) (Vm.Alike.refl U.vm) qK, jNw_same (u := U) (U := U.calling g mk a) rfl qN, qD⟩, va_recv hK hP (ci := 2) (q0 := 1) rfl rfl, fun U hU hW => ⟨rfl, by rw [hU], by rw [hU]; exact hPc, va_K.moved hW.alike hK, jNw_warm hW hN, hDc.weaken (fun _ _ _ _ => trivial)⟩⟩ rfl rfl hl.1 rfl (lv_room (Nat.le_of_ble_eq_true rfl)) dX6_carry_90 ⟨Nat.le_of_ble_eq_true rfl, Nat.le_of_ble_eq_true rfl⟩) hS (fun q _ h => hFc q h) hFc (fun u t H1 locs ht hvm er_27 hB hz1 hk1 hS => ?_)
      obtain ⟨hP1, hK1, hD1⟩ := hB
      rw [ht] at hP1
      have hPD := va_join (wr := [(a_t, .inr (6, [.ref a_lines, .ref a_chart, .ref a_trial, .ref a_log, .ref a_shelves, .ref a_shown, .int k_shownCount, .int k_status, .int k_whyStep, .int k_whyReason, .int k_whyBarge, z_search, z_plan])), (a_lines_sort, .inl (cT 0, 8, .inl k_lines_sort)), (a_lines_size, .inl (cT 0, 8, .inl k_lines_size)), (a_chart, .inr (0, [.int k_chart_width, .int k_chart_height, .int k_chart_barges, .long k_chart_walls, .long k_chart_taken, .ref a_chart_kind, .ref a_chart_place, .ref a_chart_length, .ref a_chart_gate, .ref a_chart_across, .ref a_chart_wide, .ref a_chart_high, .ref a_chart_shape])), (a_log, .inr (3, [.ref a_log_moves, .int k_log_first, .int k_log_done, .int k_log_undone]))]) (w1 := [(a_lines, .inr (2, [.ref a_lines_sort, .ref a_lines_size, .ref a_lines_numbers, .ref a_lines_carried])), (a_lines_numbers, .inl (cT 0, 64, .inl k_lines_numbers_24)), (a_lines_carried, .inl (cT 0, 8, .inl k_lines_carried_25))]) hP hD [1, 4, 5] [0, 2, 3, 6, 7] rfl rfl (by decide) (by decide) hk1 hFc hP1 hD1
      clear hP hD
      obtain ⟨hP, hD⟩ := hPD
      replace hP := hP.sub (ws' := [(a_t, .inr (6, [.ref a_lines, .ref a_chart, .ref a_trial, .ref a_log, .ref a_shelves, .ref a_shown, .int k_shownCount, .int k_status, .int k_whyStep, .int k_whyReason, .int k_whyBarge, z_search, z_plan])), (a_lines, .inr (2, [.ref a_lines_sort, .ref a_lines_size, .ref a_lines_numbers, .ref a_lines_carried])), (a_lines_sort, .inl (cT 0, 8, .inl k_lines_sort)), (a_lines_size, .inl (cT 0, 8, .inl k_lines_size)), (a_lines_numbers, .inl (cT 0, 64, .inl k_lines_numbers_24)), (a_lines_carried, .inl (cT 0, 8, .inl k_lines_carried_25)), (a_chart, .inr (0, [.int k_chart_width, .int k_chart_height, .int k_chart_barges, .long k_chart_walls, .long k_chart_taken, .ref a_chart_kind, .ref a_chart_place, .ref a_chart_length, .ref a_chart_gate, .ref a_chart_across, .ref a_chart_wide, .ref a_chart_high, .ref a_chart_shape])), (a_log, .inr (3, [.ref a_log_moves, .int k_log_first, .int k_log_done, .int k_log_undone]))]) [0, 5, 1, 2, 6, 7, 3, 4] rfl
      replace hD := hD.sub (ws' := [(a_t, .inr (6, [.ref a_lines, .ref a_chart, .ref a_trial, .ref a_log, .ref a_shelves, .ref a_shown, .int k_shownCount, .int k_status, .int k_whyStep, .int k_whyReason, .int k_whyBarge, z_search, z_plan])), (a_lines, .inr (2, [.ref a_lines_sort, .ref a_lines_size, .ref a_lines_numbers, .ref a_lines_carried])), (a_lines_sort, .inl (cT 0, 8, .inl k_lines_sort)), (a_lines_size, .inl (cT 0, 8, .inl k_lines_size)), (a_lines_numbers, .inl (cT 0, 64, .inl k_lines_numbers_24)), (a_lines_carried, .inl (cT 0, 8, .inl k_lines_carried_25)), (a_chart, .inr (0, [.int k_chart_width, .int k_chart_height, .int k_chart_barges, .long k_chart_walls, .long k_chart_taken, .ref a_chart_kind, .ref a_chart_place, .ref a_chart_length, .ref a_chart_gate, .ref a_chart_across, .ref a_chart_wide, .ref a_chart_high, .ref a_chart_shape])), (a_log, .inr (3, [.ref a_log_moves, .int k_log_first, .int k_log_done, .int k_log_undone]))]) [0, 5, 1, 2, 6, 7, 3, 4] (by decide) rfl
      clear hPc hDc hFc hP1 hK1 hD1 hk1 hz1
      generalize H1 = H at hP hS ⊢
      refine lv_aload_n hx hb dX6_carry_93 rfl (lv_at hl 0 rfl) ?_
      refine lv_iload_n hx hb dX6_carry_94 rfl (lv_at hl 3 rfl) ?_
      replace hf := ob_b hf
      obtain ⟨⟨zr_28, k_status_29, k_chart_walls_30, k_log_done_31, k_log_undone_32⟩, hc_33, hf⟩ := hf
      replace hf := ob_un5 hf
      have hPc := hP.sub (ws' := [(a_t, .inr (6, [.ref a_lines, .ref a_chart, .ref a_trial, .ref a_log, .ref a_shelves, .ref a_shown, .int k_shownCount, .int k_status, .int k_whyStep, .int k_whyReason, .int k_whyBarge, z_search, z_plan])), (a_lines, .inr (2, [.ref a_lines_sort, .ref a_lines_size, .ref a_lines_numbers, .ref a_lines_carried])), (a_lines_sort, .inl (cT 0, 8, .inl k_lines_sort)), (a_lines_size, .inl (cT 0, 8, .inl k_lines_size)), (a_lines_numbers, .inl (cT 0, 64, .inl k_lines_numbers_24)), (a_chart, .inr (0, [.int k_chart_width, .int k_chart_height, .int k_chart_barges, .long k_chart_walls, .long k_chart_taken, .ref a_chart_kind, .ref a_chart_place, .ref a_chart_length, .ref a_chart_gate, .ref a_chart_across, .ref a_chart_wide, .ref a_chart_high, .ref a_chart_shape])), (a_log, .inr (3, [.ref a_log_moves, .int k_log_first, .int k_log_done, .int k_log_undone]))]) [0, 1, 2, 3, 4, 6, 7] rfl
      have hDc := hD.sub (ws' := [(a_t, .inr (6, [.ref a_lines, .ref a_chart, .ref a_trial, .ref a_log, .ref a_shelves, .ref a_shown, .int k_shownCount, .int k_status, .int k_whyStep, .int k_whyReason, .int k_whyBarge, z_search, z_plan])), (a_lines, .inr (2, [.ref a_lines_sort, .ref a_lines_size, .ref a_lines_numbers, .ref a_lines_carried])), (a_lines_sort, .inl (cT 0, 8, .inl k_lines_sort)), (a_lines_size, .inl (cT 0, 8, .inl k_lines_size)), (a_lines_numbers, .inl (cT 0, 64, .inl k_lines_numbers_24)), (a_chart, .inr (0, [.int k_chart_width, .int k_chart_height, .int k_chart_barges, .long k_chart_walls, .long k_chart_taken, .ref a_chart_kind, .ref a_chart_place, .ref a_chart_length, .ref a_chart_gate, .ref a_chart_across, .ref a_chart_wide, .ref a_chart_high, .ref a_chart_shape])), (a_log, .inr (3, [.ref a_log_moves, .int k_log_first, .int k_log_done, .int k_log_undone]))]) [0, 1, 2, 3, 4, 6, 7] (by decide) rfl
      have hFc := va_free (wc := [(a_t, .inr (6, [.ref a_lines, .ref a_chart, .ref a_trial, .ref a_log, .ref a_shelves, .ref a_shown, .int k_shownCount, .int k_status, .int k_whyStep, .int k_whyReason, .int k_whyBarge, z_search, z_plan])), (a_lines, .inr (2, [.ref a_lines_sort, .ref a_lines_size, .ref a_lines_numbers, .ref a_lines_carried])), (a_lines_sort, .inl (cT 0, 8, .inl k_lines_sort)), (a_lines_size, .inl (cT 0, 8, .inl k_lines_size)), (a_lines_numbers, .inl (cT 0, 64, .inl k_lines_numbers_24)), (a_chart, .inr (0, [.int k_chart_width, .int k_chart_height, .int k_chart_barges, .long k_chart_walls, .long k_chart_taken, .ref a_chart_kind, .ref a_chart_place, .ref a_chart_length, .ref a_chart_gate, .ref a_chart_across, .ref a_chart_wide, .ref a_chart_high, .ref a_chart_shape])), (a_log, .inr (3, [.ref a_log_moves, .int k_log_first, .int k_log_done, .int k_log_undone]))]) hD hS hA [0, 1, 2, 3, 4, 6, 7] rfl
      refine va_calli (va_runV (As := [.int v3]) (rest := []) ⟨hx, hb, hml, hown, hts⟩ (c_f_BargeBasin_linesChanged l D cT H.size a_t a_lines a_chart a_trial a_log a_shelves a_shown a_lines_sort a_lines_size a_lines_numbers a_lines_carried a_chart_kind a_chart_place a_chart_length a_chart_gate a_chart_across a_chart_wide a_chart_high a_chart_shape a_log_moves z_search z_plan k_shownCount k_status k_whyStep k_whyReason k_whyBarge k_lines_sort k_lines_size k_lines_numbers_24 k_chart_width k_chart_height k_chart_barges k_chart_walls k_chart_taken k_log_first k_log_done k_log_undone v3 _ _ _ _ _ hc_33) (cwV 1 hts gX6_carry_X6_linesChanged rfl rfl rfl (by decide +kernel) ⟨Nat.le_of_ble_eq_true rfl, Nat.le_of_ble_eq_true rfl⟩) ⟨fun a U g mk q => by obtain ⟨q0, q1, qP, qK, qN, qD⟩ := q; exact ⟨q0, q1, qP, va_K.moved (u := U) (U := U.calling g mk a) (Vm.Alike.refl U.vm) qK, jNw_same (u := U) (U := U.calling g mk a) rfl qN, qD⟩, va_recv hK hP (ci := 6) (q0 := 0) rfl rfl, fun U hU hW => ⟨rfl, by rw [hU], by rw [hU]; exact hPc, va_K.moved hW.alike hK, jNw_warm hW hN, hDc.weaken (fun _ _ _ _ => trivial)⟩⟩ rfl rfl hl.1 rfl (lv_room (Nat.le_of_ble_eq_true rfl)) dX6_carry_95 ⟨Nat.le_of_ble_eq_true rfl, Nat.le_of_ble_eq_true rfl⟩) hS (fun q _ h => hFc q h) hFc (fun r_28 u t H1 locs ht hvm er_34 hB hz1 hk1 hS => ?_)
      subst er_34
      obtain ⟨hP1, hK1, hD1⟩ := hB
      rw [ht] at hP1
      have hPD := va_join (wr := [(a_lines_carried, .inl (cT 0, 8, .inl k_lines_carried_25))]) (w1 := [(a_t, .inr (6, [.ref a_lines, .ref a_chart, .ref a_trial, .ref a_log, .ref a_shelves, .ref a_shown, .int k_shownCount, .int k_status_29, .int k_whyStep, .int k_whyReason, .int k_whyBarge, z_search, z_plan])), (a_lines, .inr (2, [.ref a_lines_sort, .ref a_lines_size, .ref a_lines_numbers, .ref a_lines_carried])), (a_lines_sort, .inl (cT 0, 8, .inl k_lines_sort)), (a_lines_size, .inl (cT 0, 8, .inl k_lines_size)), (a_lines_numbers, .inl (cT 0, 64, .inl k_lines_numbers_24)), (a_chart, .inr (0, [.int k_chart_width, .int k_chart_height, .int k_chart_barges, .long k_chart_walls_30, .long k_chart_taken, .ref a_chart_kind, .ref a_chart_place, .ref a_chart_length, .ref a_chart_gate, .ref a_chart_across, .ref a_chart_wide, .ref a_chart_high, .ref a_chart_shape])), (a_log, .inr (3, [.ref a_log_moves, .int k_log_first, .int k_log_done_31, .int k_log_undone_32]))]) hP hD [0, 1, 2, 3, 4, 6, 7] [5] rfl rfl (by decide) (by decide) hk1 hFc hP1 hD1
      clear hP hD
      obtain ⟨hP, hD⟩ := hPD
      replace hP := hP.sub (ws' := [(a_t, .inr (6, [.ref a_lines, .ref a_chart, .ref a_trial, .ref a_log, .ref a_shelves, .ref a_shown, .int k_shownCount, .int k_status_29, .int k_whyStep, .int k_whyReason, .int k_whyBarge, z_search, z_plan])), (a_lines, .inr (2, [.ref a_lines_sort, .ref a_lines_size, .ref a_lines_numbers, .ref a_lines_carried])), (a_lines_sort, .inl (cT 0, 8, .inl k_lines_sort)), (a_lines_size, .inl (cT 0, 8, .inl k_lines_size)), (a_lines_numbers, .inl (cT 0, 64, .inl k_lines_numbers_24)), (a_lines_carried, .inl (cT 0, 8, .inl k_lines_carried_25)), (a_chart, .inr (0, [.int k_chart_width, .int k_chart_height, .int k_chart_barges, .long k_chart_walls_30, .long k_chart_taken, .ref a_chart_kind, .ref a_chart_place, .ref a_chart_length, .ref a_chart_gate, .ref a_chart_across, .ref a_chart_wide, .ref a_chart_high, .ref a_chart_shape])), (a_log, .inr (3, [.ref a_log_moves, .int k_log_first, .int k_log_done_31, .int k_log_undone_32]))]) [1, 2, 3, 4, 5, 0, 6, 7] rfl
      replace hD := hD.sub (ws' := [(a_t, .inr (6, [.ref a_lines, .ref a_chart, .ref a_trial, .ref a_log, .ref a_shelves, .ref a_shown, .int k_shownCount, .int k_status_29, .int k_whyStep, .int k_whyReason, .int k_whyBarge, z_search, z_plan])), (a_lines, .inr (2, [.ref a_lines_sort, .ref a_lines_size, .ref a_lines_numbers, .ref a_lines_carried])), (a_lines_sort, .inl (cT 0, 8, .inl k_lines_sort)), (a_lines_size, .inl (cT 0, 8, .inl k_lines_size)), (a_lines_numbers, .inl (cT 0, 64, .inl k_lines_numbers_24)), (a_lines_carried, .inl (cT 0, 8, .inl k_lines_carried_25)), (a_chart, .inr (0, [.int k_chart_width, .int k_chart_height, .int k_chart_barges, .long k_chart_walls_30, .long k_chart_taken, .ref a_chart_kind, .ref a_chart_place, .ref a_chart_length, .ref a_chart_gate, .ref a_chart_across, .ref a_chart_wide, .ref a_chart_high, .ref a_chart_shape])), (a_log, .inr (3, [.ref a_log_moves, .int k_log_first, .int k_log_done_31, .int k_log_undone_32]))]) [1, 2, 3, 4, 5, 0, 6, 7] (by decide) rfl
      clear hPc hDc hFc hP1 hK1 hD1 hk1 hz1
      generalize H1 = H at hP hS ⊢
      replace hf := ob_bool hf
      obtain ⟨hz_35, hf⟩ := hf
      replace hf := ob_t7 hf
      obtain ⟨ee0, ee1, ee2, ee3, ee4, ee5, ee6⟩ := hf
      subst ee0
      subst ee1
      subst ee2
      subst ee3
      subst ee4
      subst ee5
      subst ee6
      exact W.zret hx hb hr hz_35 (fun t ht hW => ⟨⟨_, (), rfl, rfl, by rw [ht]; exact hP, va_K.moved hW.alike hK, hD⟩, hS.F ht⟩) hS.2.2 dX6_carry_98
  · replace hf := ob_neg c_4 hf
    refine lv_aload_n hx hb dX6_carry_18 rfl (lv_at hl 1 rfl) ?_
    refine lv_iload hx hb dX6_carry_19 (lv_at hl 0 rfl) ?_
    replace hf := ob_b hf
    obtain ⟨⟨zr_37, k_status_38⟩, hc_39, hf⟩ := hf
    replace hf := ob_un2 hf
    have hPc := hP.sub (ws' := [(a_t, .inr (6, [.ref a_lines, .ref a_chart, .ref a_trial, .ref a_log, .ref a_shelves, .ref a_shown, .int k_shownCount, .int k_status, .int k_whyStep, .int k_whyReason, .int k_whyBarge, z_search, z_plan]))]) [0] rfl
    have hDc := hD.sub (ws' := [(a_t, .inr (6, [.ref a_lines, .ref a_chart, .ref a_trial, .ref a_log, .ref a_shelves, .ref a_shown, .int k_shownCount, .int k_status, .int k_whyStep, .int k_whyReason, .int k_whyBarge, z_search, z_plan]))]) [0] (by decide) rfl
    have hFc := va_free (wc := [(a_t, .inr (6, [.ref a_lines, .ref a_chart, .ref a_trial, .ref a_log, .ref a_shelves, .ref a_shown, .int k_shownCount, .int k_status, .int k_whyStep, .int k_whyReason, .int k_whyBarge, z_search, z_plan]))]) hD hS hA [0] rfl
    refine va_calli (va_runV (As := [.int r_1]) (rest := []) ⟨hx, hb, hml, hown, hts⟩ (c_f_BargeBasin_deny l D cT H.size a_t a_lines a_chart a_trial a_log a_shelves a_shown z_search z_plan k_shownCount k_status k_whyStep k_whyReason k_whyBarge r_1 _ _ hc_39) (cwV 1 hts gX6_carry_X6_deny rfl rfl rfl (by decide +kernel) ⟨Nat.le_of_ble_eq_true rfl, Nat.le_of_ble_eq_true rfl⟩) ⟨fun a U g mk q => by obtain ⟨q0, q1, qP, qK, qN, qD⟩ := q; exact ⟨q0, q1, qP, va_K.moved (u := U) (U := U.calling g mk a) (Vm.Alike.refl U.vm) qK, jNw_same (u := U) (U := U.calling g mk a) rfl qN, qD⟩, va_recv hK hP (ci := 6) (q0 := 0) rfl rfl, fun U hU hW => ⟨rfl, by rw [hU], by rw [hU]; exact hPc, va_K.moved hW.alike hK, jNw_warm hW hN, hDc.weaken (fun _ _ _ _ => trivial)⟩⟩ rfl rfl hl.1 rfl (lv_room (Nat.le_of_ble_eq_true rfl)) dX6_carry_21 ⟨Nat.le_of_ble_eq_true rfl, Nat.le_of_ble_eq_true rfl⟩) hS (fun q _ h => hFc q h) hFc (fun r_37 u t H1 locs ht hvm er_40 hB hz1 hk1 hS => ?_)
    subst er_40
    obtain ⟨hP1, hK1, hD1⟩ := hB
    rw [ht] at hP1
    have hPD := va_join (wr := [(a_lines, .inr (2, [.ref a_lines_sort, .ref a_lines_size, .ref a_lines_numbers, .ref a_lines_carried])), (a_lines_sort, .inl (cT 0, 8, .inl k_lines_sort)), (a_lines_size, .inl (cT 0, 8, .inl k_lines_size)), (a_lines_numbers, .inl (cT 0, 64, .inl k_lines_numbers)), (a_lines_carried, .inl (cT 0, 8, .inl k_lines_carried)), (a_chart, .inr (0, [.int k_chart_width, .int k_chart_height, .int k_chart_barges, .long k_chart_walls, .long k_chart_taken, .ref a_chart_kind, .ref a_chart_place, .ref a_chart_length, .ref a_chart_gate, .ref a_chart_across, .ref a_chart_wide, .ref a_chart_high, .ref a_chart_shape])), (a_log, .inr (3, [.ref a_log_moves, .int k_log_first, .int k_log_done, .int k_log_undone]))]) (w1 := [(a_t, .inr (6, [.ref a_lines, .ref a_chart, .ref a_trial, .ref a_log, .ref a_shelves, .ref a_shown, .int k_shownCount, .int k_status_38, .int k_whyStep, .int k_whyReason, .int k_whyBarge, z_search, z_plan]))]) hP hD [0] [1, 2, 3, 4, 5, 6, 7] rfl rfl (by decide) (by decide) hk1 hFc hP1 hD1
    clear hP hD
    obtain ⟨hP, hD⟩ := hPD
    replace hP := hP.sub (ws' := [(a_t, .inr (6, [.ref a_lines, .ref a_chart, .ref a_trial, .ref a_log, .ref a_shelves, .ref a_shown, .int k_shownCount, .int k_status_38, .int k_whyStep, .int k_whyReason, .int k_whyBarge, z_search, z_plan])), (a_lines, .inr (2, [.ref a_lines_sort, .ref a_lines_size, .ref a_lines_numbers, .ref a_lines_carried])), (a_lines_sort, .inl (cT 0, 8, .inl k_lines_sort)), (a_lines_size, .inl (cT 0, 8, .inl k_lines_size)), (a_lines_numbers, .inl (cT 0, 64, .inl k_lines_numbers)), (a_lines_carried, .inl (cT 0, 8, .inl k_lines_carried)), (a_chart, .inr (0, [.int k_chart_width, .int k_chart_height, .int k_chart_barges, .long k_chart_walls, .long k_chart_taken, .ref a_chart_kind, .ref a_chart_place, .ref a_chart_length, .ref a_chart_gate, .ref a_chart_across, .ref a_chart_wide, .ref a_chart_high, .ref a_chart_shape])), (a_log, .inr (3, [.ref a_log_moves, .int k_log_first, .int k_log_done, .int k_log_undone]))]) [7, 0, 1, 2, 3, 4, 5, 6] rfl
    replace hD := hD.sub (ws' := [(a_t, .inr (6, [.ref a_lines, .ref a_chart, .ref a_trial, .ref a_log, .ref a_shelves, .ref a_shown, .int k_shownCount, .int k_status_38, .int k_whyStep, .int k_whyReason, .int k_whyBarge, z_search, z_plan])), (a_lines, .inr (2, [.ref a_lines_sort, .ref a_lines_size, .ref a_lines_numbers, .ref a_lines_carried])), (a_lines_sort, .inl (cT 0, 8, .inl k_lines_sort)), (a_lines_size, .inl (cT 0, 8, .inl k_lines_size)), (a_lines_numbers, .inl (cT 0, 64, .inl k_lines_numbers)), (a_lines_carried, .inl (cT 0, 8, .inl k_lines_carried)), (a_chart, .inr (0, [.int k_chart_width, .int k_chart_height, .int k_chart_barges, .long k_chart_walls, .long k_chart_taken, .ref a_chart_kind, .ref a_chart_place, .ref a_chart_length, .ref a_chart_gate, .ref a_chart_across, .ref a_chart_wide, .ref a_chart_high, .ref a_chart_shape])), (a_log, .inr (3, [.ref a_log_moves, .int k_log_first, .int k_log_done, .int k_log_undone]))]) [7, 0, 1, 2, 3, 4, 5, 6] (by decide) rfl
    clear hPc hDc hFc hP1 hK1 hD1 hk1 hz1
    generalize H1 = H at hP hS ⊢
    replace hf := ob_bool hf
    obtain ⟨hz_41, hf⟩ := hf
    replace hf := ob_t7 hf
    obtain ⟨ee0, ee1, ee2, ee3, ee4, ee5, ee6⟩ := hf
    subst ee0
    subst ee1
    subst ee2
    subst ee3
    subst ee4
    subst ee5
    subst ee6
    exact W.zret hx hb hr hz_41 (fun t ht hW => ⟨⟨_, (), rfl, rfl, by rw [ht]; exact hP, va_K.moved hW.alike hK, hD⟩, hS.F ht⟩) hS.2.2 dX6_carry_24
theorem iw_wsX6_tear_X6 : ∀ w ∈ wsX60, w ∈ wsX6_tear := fun _ h => List.mem_cons_of_mem _ (List.mem_append_left _ (List.mem_append_left _ (List.mem_append_left _ (List.mem_append_right _ h))))
theorem iw_wsX6_tear_X0 : ∀ w ∈ wsX00, w ∈ wsX6_tear := fun _ h => List.mem_cons_of_mem _ (List.mem_append_left _ (List.mem_append_left _ (List.mem_append_right _ h)))
theorem iw_wsX6_tear_X2 : ∀ w ∈ wsX20, w ∈ wsX6_tear := fun _ h => List.mem_cons_of_mem _ (List.mem_append_left _ (List.mem_append_right _ h))
theorem iw_wsX6_tear_X3 : ∀ w ∈ wsX30, w ∈ wsX6_tear := fun _ h => List.mem_cons_of_mem _ (List.mem_append_right _ h)
abbrev rm_BargeBasin_tear : Room := { frames := 3, cells := 0, slots := 0, locals := 67 }
set_option maxHeartbeats 4000000 in
set_option maxRecDepth 100000 in
theorem c_f_BargeBasin_tear (l : Launch) (D : va_G) (cT : Nat → ClassId) (sz : Nat) (a_t a_lines a_chart a_trial a_log a_shelves a_shown a_lines_sort a_lines_size a_lines_numbers a_lines_carried a_chart_kind a_chart_place a_chart_length a_chart_gate a_chart_across a_chart_wide a_chart_high a_chart_shape a_log_moves : Nat) (z_search z_plan : Value) (k_shownCount : Int32) (k_status : Int32) (k_whyStep : Int32) (k_whyReason : Int32) (k_whyBarge : Int32) (k_lines_sort : Nat → Int32) (k_lines_size : Nat → Int32) (k_lines_numbers : Nat → Int32) (k_chart_width : Int32) (k_chart_height : Int32) (k_chart_barges : Int32) (k_chart_walls : Int64) (k_chart_taken : Int64) (k_log_first : Int32) (k_log_done : Int32) (k_log_undone : Int32) (v1 : Int32) (r0 : Int32) (k_status₉ : Int32) (k_lines_sort₉ : Nat → Int32) (k_chart_walls₉ : Int64) (k_log_done₉ : Int32) (k_log_undone₉ : Int32) (hf : f_BargeBasin_tear v1 k_status k_lines_sort k_lines_size k_lines_numbers k_chart_width k_chart_height k_chart_walls k_log_done k_log_undone = some (r0, k_status₉, k_lines_sort₉, k_chart_walls₉, k_log_done₉, k_log_undone₉)) : Met l yX6_tear wsX6_tear rm_BargeBasin_tear (va_Pc [.ref a_t, .int v1] (fun U => U.heap.size = sz ∧ va_P D vwCl [(a_t, .inr (6, [.ref a_lines, .ref a_chart, .ref a_trial, .ref a_log, .ref a_shelves, .ref a_shown, .int k_shownCount, .int k_status, .int k_whyStep, .int k_whyReason, .int k_whyBarge, z_search, z_plan])), (a_lines, .inr (2, [.ref a_lines_sort, .ref a_lines_size, .ref a_lines_numbers, .ref a_lines_carried])), (a_lines_sort, .inl (cT 0, 8, .inl k_lines_sort)), (a_lines_size, .inl (cT 0, 8, .inl k_lines_size)), (a_lines_numbers, .inl (cT 0, 64, .inl k_lines_numbers)), (a_chart, .inr (0, [.int k_chart_width, .int k_chart_height, .int k_chart_barges, .long k_chart_walls, .long k_chart_taken, .ref a_chart_kind, .ref a_chart_place, .ref a_chart_length, .ref a_chart_gate, .ref a_chart_across, .ref a_chart_wide, .ref a_chart_high, .ref a_chart_shape])), (a_log, .inr (3, [.ref a_log_moves, .int k_log_first, .int k_log_done, .int k_log_undone]))] U.heap ∧ va_K D vwCl (jT cT) U ∧ jNw U ∧ va_D (fun _ => True) [(a_t, .inr (6, [.ref a_lines, .ref a_chart, .ref a_trial, .ref a_log, .ref a_shelves, .ref a_shown, .int k_shownCount, .int k_status, .int k_whyStep, .int k_whyReason, .int k_whyBarge, z_search, z_plan])), (a_lines, .inr (2, [.ref a_lines_sort, .ref a_lines_size, .ref a_lines_numbers, .ref a_lines_carried])), (a_lines_sort, .inl (cT 0, 8, .inl k_lines_sort)), (a_lines_size, .inl (cT 0, 8, .inl k_lines_size)), (a_lines_numbers, .inl (cT 0, 64, .inl k_lines_numbers)), (a_chart, .inr (0, [.int k_chart_width, .int k_chart_height, .int k_chart_barges, .long k_chart_walls, .long k_chart_taken, .ref a_chart_kind, .ref a_chart_place, .ref a_chart_length, .ref a_chart_gate, .ref a_chart_across, .ref a_chart_wide, .ref a_chart_high, .ref a_chart_shape])), (a_log, .inr (3, [.ref a_log_moves, .int k_log_first, .int k_log_done, .int k_log_undone]))])) (va_Qi (fun r (_ : Unit) => r = r0) (fun (_ : Unit) t => va_P D vwCl [(a_t, .inr (6, [.ref a_lines, .ref a_chart, .ref a_trial, .ref a_log, .ref a_shelves, .ref a_shown, .int k_shownCount, .int k_status₉, .int k_whyStep, .int k_whyReason, .int k_whyBarge, z_search, z_plan])), (a_lines, .inr (2, [.ref a_lines_sort, .ref a_lines_size, .ref a_lines_numbers, .ref a_lines_carried])), (a_lines_sort, .inl (cT 0, 8, .inl k_lines_sort₉)), (a_lines_size, .inl (cT 0, 8, .inl k_lines_size)), (a_lines_numbers, .inl (cT 0, 64, .inl k_lines_numbers)), (a_chart, .inr (0, [.int k_chart_width, .int k_chart_height, .int k_chart_barges, .long k_chart_walls₉, .long k_chart_taken, .ref a_chart_kind, .ref a_chart_place, .ref a_chart_length, .ref a_chart_gate, .ref a_chart_across, .ref a_chart_wide, .ref a_chart_high, .ref a_chart_shape])), (a_log, .inr (3, [.ref a_log_moves, .int k_log_first, .int k_log_done₉, .int k_log_undone₉]))] t.heap ∧ va_K D vwCl (jT cT) t ∧ va_D (va_A [(a_t, .inr (6, [.ref a_lines, .ref a_chart, .ref a_trial, .ref a_log, .ref a_shelves, .ref a_shown, .int k_shownCount, .int k_status, .int k_whyStep, .int k_whyReason, .int k_whyBarge, z_search, z_plan])), (a_lines, .inr (2, [.ref a_lines_sort, .ref a_lines_size, .ref a_lines_numbers, .ref a_lines_carried])), (a_lines_sort, .inl (cT 0, 8, .inl k_lines_sort)), (a_lines_size, .inl (cT 0, 8, .inl k_lines_size)), (a_lines_numbers, .inl (cT 0, 64, .inl k_lines_numbers)), (a_chart, .inr (0, [.int k_chart_width, .int k_chart_height, .int k_chart_barges, .long k_chart_walls, .long k_chart_taken, .ref a_chart_kind, .ref a_chart_place, .ref a_chart_length, .ref a_chart_gate, .ref a_chart_across, .ref a_chart_wide, .ref a_chart_high, .ref a_chart_shape])), (a_log, .inr (3, [.ref a_log_moves, .int k_log_first, .int k_log_done, .int k_log_undone]))] sz) [(a_t, .inr (6, [.ref a_lines, .ref a_chart, .ref a_trial, .ref a_log, .ref a_shelves, .ref a_shown, .int k_shownCount, .int k_status₉, .int k_whyStep, .int k_whyReason, .int k_whyBarge, z_search, z_plan])), (a_lines, .inr (2, [.ref a_lines_sort, .ref a_lines_size, .ref a_lines_numbers, .ref a_lines_carried])), (a_lines_sort, .inl (cT 0, 8, .inl k_lines_sort₉)), (a_lines_size, .inl (cT 0, 8, .inl k_lines_size)), (a_lines_numbers, .inl (cT 0, 64, .inl k_lines_numbers)), (a_chart, .inr (0, [.int k_chart_width, .int k_chart_height, .int k_chart_barges, .long k_chart_walls₉, .long k_chart_taken, .ref a_chart_kind, .ref a_chart_place, .ref a_chart_length, .ref a_chart_gate, .ref a_chart_across, .ref a_chart_wide, .ref a_chart_high, .ref a_chart_shape])), (a_log, .inr (3, [.ref a_log_moves, .int k_log_first, .int k_log_done₉, .int k_log_undone₉]))]) (va_A [(a_t, .inr (6, [.ref a_lines, .ref a_chart, .ref a_trial, .ref a_log, .ref a_shelves, .ref a_shown, .int k_shownCount, .int k_status, .int k_whyStep, .int k_whyReason, .int k_whyBarge, z_search, z_plan])), (a_lines, .inr (2, [.ref a_lines_sort, .ref a_lines_size, .ref a_lines_numbers, .ref a_lines_carried])), (a_lines_sort, .inl (cT 0, 8, .inl k_lines_sort)), (a_lines_size, .inl (cT 0, 8, .inl k_lines_size)), (a_lines_numbers, .inl (cT 0, 64, .inl k_lines_numbers)), (a_chart, .inr (0, [.int k_chart_width, .int k_chart_height, .int k_chart_barges, .long k_chart_walls, .long k_chart_taken, .ref a_chart_kind, .ref a_chart_place, .ref a_chart_length, .ref a_chart_gate, .ref a_chart_across, .ref a_chart_wide, .ref a_chart_high, .ref a_chart_shape])), (a_log, .inr (3, [.ref a_log_moves, .int k_log_first, .int k_log_done, .int k_log_undone]))] sz)) 0 0 (va_A [(a_t, .inr (6, [.ref a_lines, .ref a_chart, .ref a_trial, .ref a_log, .ref a_shelves, .ref a_shown, .int k_shownCount, .int k_status, .int k_whyStep, .int k_whyReason, .int k_whyBarge, z_search, z_plan])), (a_lines, .inr (2, [.ref a_lines_sort, .ref a_lines_size, .ref a_lines_numbers, .ref a_lines_carried])), (a_lines_sort, .inl (cT 0, 8, .inl k_lines_sort)), (a_lines_size, .inl (cT 0, 8, .inl k_lines_size)), (a_lines_numbers, .inl (cT 0, 64, .inl k_lines_numbers)), (a_chart, .inr (0, [.int k_chart_width, .int k_chart_height, .int k_chart_barges, .long k_chart_walls, .long k_chart_taken, .ref a_chart_kind, .ref a_chart_place, .ref a_chart_length, .ref a_chart_gate, .ref a_chart_across, .ref a_chart_wide, .ref a_chart_high, .ref a_chart_shape])), (a_log, .inr (3, [.ref a_log_moves, .int k_log_first, .int k_log_done, .int k_log_undone]))] sz) := by
  refine Met.ofW (cc := cX6_tear) (maxL := 3) (ret := (some .boolean)) (by decide) rfl ?_
  intro p e s m args below meth c s₁ B hml hv
  obtain ⟨rfl, hsz, hP, hK, hN, hD0⟩ := hv
  have hx := B.exec
  have hb := B.bytes
  have hr := B.returns
  have hts := atoms_spec (ws := wsX6_tear) B.pre
  have hown : s.vm.findClass RX6 = some m.cls := findClass_of_methodNamed B.named
  have hlocks := B.notSynchronized
  subst hsz
  have hD := hD0.self (sz := s.heap.size)
  clear hD0
  generalize hAe : va_A [(a_t, .inr (6, [.ref a_lines, .ref a_chart, .ref a_trial, .ref a_log, .ref a_shelves, .ref a_shown, .int k_shownCount, .int k_status, .int k_whyStep, .int k_whyReason, .int k_whyBarge, z_search, z_plan])), (a_lines, .inr (2, [.ref a_lines_sort, .ref a_lines_size, .ref a_lines_numbers, .ref a_lines_carried])), (a_lines_sort, .inl (cT 0, 8, .inl k_lines_sort)), (a_lines_size, .inl (cT 0, 8, .inl k_lines_size)), (a_lines_numbers, .inl (cT 0, 64, .inl k_lines_numbers)), (a_chart, .inr (0, [.int k_chart_width, .int k_chart_height, .int k_chart_barges, .long k_chart_walls, .long k_chart_taken, .ref a_chart_kind, .ref a_chart_place, .ref a_chart_length, .ref a_chart_gate, .ref a_chart_across, .ref a_chart_wide, .ref a_chart_high, .ref a_chart_shape])), (a_log, .inr (3, [.ref a_log_moves, .int k_log_first, .int k_log_done, .int k_log_undone]))] s.heap.size = A at hD ⊢
  have hA : ∀ q : Nat, s.heap.size ≤ q → A q := fun q h => by rw [← hAe]; exact Or.inr h
  clear hAe
  have hl := lv_entry ([.ref a_t, .int v1]) (n := 3) (Nat.le_of_ble_eq_true rfl)
  rw [lg_entry_eq]
  generalize (lg_sl ([.ref a_t, .int v1]) ++ List.replicate (3 - (lg_sl ([.ref a_t, .int v1])).length) Slot.unset).toArray = ls at hl ⊢
  have hl : lv_has ls 3 [(0, .ref a_t), (1, .int v1)] := hl
  refine j_start (A := A) hP (fun H locs hP hS => ?_)
  unfold f_BargeBasin_tear at hf
  refine lv_aload_n hx hb dX6_tear_0 rfl (lv_at hl 0 rfl) ?_
  refine lv_iload_n hx hb dX6_tear_1 rfl (lv_at hl 1 rfl) ?_
  replace hf := ob_b hf
  obtain ⟨zr_1, hc_2, hf⟩ := hf
  refine vp_callSi (W.runV (As := [.int v1]) (rest := []) ⟨hx, hb, hml, hown, hts⟩ (c_f_BargeBasin_faultOfLine l D cT a_t a_lines a_chart a_trial a_log a_shelves a_shown a_lines_sort a_lines_size a_lines_numbers a_lines_carried a_chart_kind a_chart_place a_chart_length a_chart_gate a_chart_across a_chart_wide a_chart_high a_chart_shape z_search z_plan k_shownCount k_status k_whyStep k_whyReason k_whyBarge k_lines_sort k_chart_width k_chart_height k_chart_barges k_chart_walls k_chart_taken v1 _ hc_2) (cwV 1 hts gX6_tear_X6_faultOfLine rfl rfl rfl (by decide +kernel) ⟨Nat.le_of_ble_eq_true rfl, Nat.le_of_ble_eq_true rfl⟩) ⟨fun a U g mk q => by obtain ⟨q0, qP, qK, qN⟩ := q; exact ⟨q0, qP, va_K.moved (u := U) (U := U.calling g mk a) (Vm.Alike.refl U.vm) qK, jNw_same (u := U) (U := U.calling g mk a) rfl qN⟩, va_recv hK hP (ci := 6) (q0 := 0) rfl rfl, fun U hU hW => ⟨rfl, by rw [hU]; exact hP.sub [0, 1, 2, 5] rfl, va_K.moved hW.alike hK, jNw_warm hW hN⟩⟩ rfl rfl hl.1 rfl (lv_room (Nat.le_of_ble_eq_true rfl)) dX6_tear_2 ⟨Nat.le_of_ble_eq_true rfl, Nat.le_of_ble_eq_true rfl⟩) (fun r_1 er_3 => ?_)
  subst er_3
  refine lv_istore_n (lv' := [(2, .int r_1), (0, .ref a_t), (1, .int v1)]) hx hb dX6_tear_5 rfl hl (by decide) rfl (fun ls hl => ?_)
  refine lv_iload_n hx hb dX6_tear_6 rfl (lv_at hl 0 rfl) ?_
  refine lv_if_eq (tgt := 16) hx hb dX6_tear_7 (by decide) (fun c_4 => ?_) (fun c_4 => ?_)
  · replace hf := ob_pos c_4 hf
    refine lv_aload_n hx hb dX6_tear_16 rfl (lv_at hl 1 rfl) ?_
    refine va_get (D := D) (ci := 6) (v := .ref a_lines) (C := RX6) (T := TX6) (N := 13) hx hb hts iw_wsX6_tear_X6 hown hK hP 0 rfl rfl 0 (by decide) (hts (.fieldLink RX6 10 "BargeBasin" "lines" "LBargeBasin$Lines;") (List.mem_of_getElem? (i := 1) (by decide +kernel))) (fun _ h9 => h9) rfl dX6_tear_17 ?_
    refine lv_iload_n hx hb dX6_tear_20 rfl (lv_at hl 2 rfl) ?_
    replace hf := ob_b hf
    obtain ⟨k_lines_sort_5, hc_6, hf⟩ := hf
    have hPc := hP.sub (ws' := [(a_lines, .inr (2, [.ref a_lines_sort, .ref a_lines_size, .ref a_lines_numbers, .ref a_lines_carried])), (a_lines_sort, .inl (cT 0, 8, .inl k_lines_sort))]) [1, 2] rfl
    have hDc := hD.sub (ws' := [(a_lines, .inr (2, [.ref a_lines_sort, .ref a_lines_size, .ref a_lines_numbers, .ref a_lines_carried])), (a_lines_sort, .inl (cT 0, 8, .inl k_lines_sort))]) [1, 2] (by decide) rfl
    have hFc := va_free (wc := [(a_lines, .inr (2, [.ref a_lines_sort, .ref a_lines_size, .ref a_lines_numbers, .ref a_lines_carried])), (a_lines_sort, .inl (cT 0, 8, .inl k_lines_sort))]) hD hS hA [1, 2] rfl
    refine va_callv (va_runV (As := [.int v1]) (rest := []) ⟨hx, hb, hml, hown, hts⟩ (c_f_Lines_tearOff l D cT H.size a_lines a_lines_sort a_lines_size a_lines_numbers a_lines_carried k_lines_sort v1 _ hc_6) (cwV 1 hts gX6_tear_X2_tearOff rfl rfl rfl (by decide +kernel) ⟨Nat.le_of_ble_eq_true rfl, Nat.le_of_ble_eq_true rfl⟩) ⟨fun a U g mk q => by obtain ⟨q0, q1, qP, qK, qN, qD⟩ := q; exact ⟨q0, q1, qP, va_K.moved (u := U) (U := U.calling g mk a) (Vm.Alike.refl U.vm) qK, jNw_same (u := U) (U := U.calling g mk a) rfl qN, qD⟩, va_recv hK hP (ci := 2) (q0 := 1) rfl rfl, fun U hU hW => ⟨rfl, by rw [hU], by rw [hU]; exact hPc, va_K.moved hW.alike hK, jNw_warm hW hN, hDc.weaken (fun _ _ _ _ => trivial)⟩⟩ rfl rfl hl.1 rfl (lv_room (Nat.le_of_ble_eq_true rfl)) dX6_tear_21 ⟨Nat.le_of_ble_eq_true rfl, Nat.le_of_ble_eq_true rfl⟩) hS (fun q _ h => hFc q h) hFc (fun u t H1 locs ht hvm er_7 hB hz1 hk1 hS => ?_)
    obtain ⟨hP1, hK1, hD1⟩ := hB
    rw [ht] at hP1
    have hPD := va_join (wr := [(a_t, .inr (6, [.ref a_lines, .ref a_chart, .ref a_trial, .ref a_log, .ref a_shelves, .ref a_shown, .int k_shownCount, .int k_status, .int k_whyStep, .int k_whyReason, .int k_whyBarge, z_search, z_plan])), (a_lines_size, .inl (cT 0, 8, .inl k_lines_size)), (a_lines_numbers, .inl (cT 0, 64, .inl k_lines_numbers)), (a_chart, .inr (0, [.int k_chart_width, .int k_chart_height, .int k_chart_barges, .long k_chart_walls, .long k_chart_taken, .ref a_chart_kind, .ref a_chart_place, .ref a_chart_length, .ref a_chart_gate, .ref a_chart_across, .ref a_chart_wide, .ref a_chart_high, .ref a_chart_shape])), (a_log, .inr (3, [.ref a_log_moves, .int k_log_first, .int k_log_done, .int k_log_undone]))]) (w1 := [(a_lines, .inr (2, [.ref a_lines_sort, .ref a_lines_size, .ref a_lines_numbers, .ref a_lines_carried])), (a_lines_sort, .inl (cT 0, 8, .inl k_lines_sort_5))]) hP hD [1, 2] [0, 3, 4, 5, 6] rfl rfl (by decide) (by decide) hk1 hFc hP1 hD1
    clear hP hD
    obtain ⟨hP, hD⟩ := hPD
    replace hP := hP.sub (ws' := [(a_t, .inr (6, [.ref a_lines, .ref a_chart, .ref a_trial, .ref a_log, .ref a_shelves, .ref a_shown, .int k_shownCount, .int k_status, .int k_whyStep, .int k_whyReason, .int k_whyBarge, z_search, z_plan])), (a_lines, .inr (2, [.ref a_lines_sort, .ref a_lines_size, .ref a_lines_numbers, .ref a_lines_carried])), (a_lines_sort, .inl (cT 0, 8, .inl k_lines_sort_5)), (a_lines_size, .inl (cT 0, 8, .inl k_lines_size)), (a_lines_numbers, .inl (cT 0, 64, .inl k_lines_numbers)), (a_chart, .inr (0, [.int k_chart_width, .int k_chart_height, .int k_chart_barges, .long k_chart_walls, .long k_chart_taken, .ref a_chart_kind, .ref a_chart_place, .ref a_chart_length, .ref a_chart_gate, .ref a_chart_across, .ref a_chart_wide, .ref a_chart_high, .ref a_chart_shape])), (a_log, .inr (3, [.ref a_log_moves, .int k_log_first, .int k_log_done, .int k_log_undone]))]) [0, 5, 6, 1, 2, 3, 4] rfl
    replace hD := hD.sub (ws' := [(a_t, .inr (6, [.ref a_lines, .ref a_chart, .ref a_trial, .ref a_log, .ref a_shelves, .ref a_shown, .int k_shownCount, .int k_status, .int k_whyStep, .int k_whyReason, .int k_whyBarge, z_search, z_plan])), (a_lines, .inr (2, [.ref a_lines_sort, .ref a_lines_size, .ref a_lines_numbers, .ref a_lines_carried])), (a_lines_sort, .inl (cT 0, 8, .inl k_lines_sort_5)), (a_lines_size, .inl (cT 0, 8, .inl k_lines_size)), (a_lines_numbers, .inl (cT 0, 64, .inl k_lines_numbers)), (a_chart, .inr (0, [.int k_chart_width, .int k_chart_height, .int k_chart_barges, .long k_chart_walls, .long k_chart_taken, .ref a_chart_kind, .ref a_chart_place, .ref a_chart_length, .ref a_chart_gate, .ref a_chart_across, .ref a_chart_wide, .ref a_chart_high, .ref a_chart_shape])), (a_log, .inr (3, [.ref a_log_moves, .int k_log_first, .int k_log_done, .int k_log_undone]))]) [0, 5, 6, 1, 2, 3, 4] (by decide) rfl
    clear hPc hDc hFc hP1 hK1 hD1 hk1 hz1
    generalize H1 = H at hP hS ⊢
    refine lv_aload_n hx hb dX6_tear_24 rfl (lv_at hl 1 rfl) ?_
    refine lv_iload_n hx hb dX6_tear_25 rfl (lv_at hl 2 rfl) ?_
    replace hf := ob_b hf
    obtain ⟨⟨zr_8, k_status_9, k_chart_walls_10, k_log_done_11, k_log_undone_12⟩, hc_13, hf⟩ := hf
    replace hf := ob_un5 hf
    have hPc := hP.sub (ws' := [(a_t, .inr (6, [.ref a_lines, .ref a_chart, .ref a_trial, .ref a_log, .ref a_shelves, .ref a_shown, .int k_shownCount, .int k_status, .int k_whyStep, .int k_whyReason, .int k_whyBarge, z_search, z_plan])), (a_lines, .inr (2, [.ref a_lines_sort, .ref a_lines_size, .ref a_lines_numbers, .ref a_lines_carried])), (a_lines_sort, .inl (cT 0, 8, .inl k_lines_sort_5)), (a_lines_size, .inl (cT 0, 8, .inl k_lines_size)), (a_lines_numbers, .inl (cT 0, 64, .inl k_lines_numbers)), (a_chart, .inr (0, [.int k_chart_width, .int k_chart_height, .int k_chart_barges, .long k_chart_walls, .long k_chart_taken, .ref a_chart_kind, .ref a_chart_place, .ref a_chart_length, .ref a_chart_gate, .ref a_chart_across, .ref a_chart_wide, .ref a_chart_high, .ref a_chart_shape])), (a_log, .inr (3, [.ref a_log_moves, .int k_log_first, .int k_log_done, .int k_log_undone]))]) [0, 1, 2, 3, 4, 5, 6] rfl
    have hDc := hD.sub (ws' := [(a_t, .inr (6, [.ref a_lines, .ref a_chart, .ref a_trial, .ref a_log, .ref a_shelves, .ref a_shown, .int k_shownCount, .int k_status, .int k_whyStep, .int k_whyReason, .int k_whyBarge, z_search, z_plan])), (a_lines, .inr (2, [.ref a_lines_sort, .ref a_lines_size, .ref a_lines_numbers, .ref a_lines_carried])), (a_lines_sort, .inl (cT 0, 8, .inl k_lines_sort_5)), (a_lines_size, .inl (cT 0, 8, .inl k_lines_size)), (a_lines_numbers, .inl (cT 0, 64, .inl k_lines_numbers)), (a_chart, .inr (0, [.int k_chart_width, .int k_chart_height, .int k_chart_barges, .long k_chart_walls, .long k_chart_taken, .ref a_chart_kind, .ref a_chart_place, .ref a_chart_length, .ref a_chart_gate, .ref a_chart_across, .ref a_chart_wide, .ref a_chart_high, .ref a_chart_shape])), (a_log, .inr (3, [.ref a_log_moves, .int k_log_first, .int k_log_done, .int k_log_undone]))]) [0, 1, 2, 3, 4, 5, 6] (by decide) rfl
    have hFc := va_free (wc := [(a_t, .inr (6, [.ref a_lines, .ref a_chart, .ref a_trial, .ref a_log, .ref a_shelves, .ref a_shown, .int k_shownCount, .int k_status, .int k_whyStep, .int k_whyReason, .int k_whyBarge, z_search, z_plan])), (a_lines, .inr (2, [.ref a_lines_sort, .ref a_lines_size, .ref a_lines_numbers, .ref a_lines_carried])), (a_lines_sort, .inl (cT 0, 8, .inl k_lines_sort_5)), (a_lines_size, .inl (cT 0, 8, .inl k_lines_size)), (a_lines_numbers, .inl (cT 0, 64, .inl k_lines_numbers)), (a_chart, .inr (0, [.int k_chart_width, .int k_chart_height, .int k_chart_barges, .long k_chart_walls, .long k_chart_taken, .ref a_chart_kind, .ref a_chart_place, .ref a_chart_length, .ref a_chart_gate, .ref a_chart_across, .ref a_chart_wide, .ref a_chart_high, .ref a_chart_shape])), (a_log, .inr (3, [.ref a_log_moves, .int k_log_first, .int k_log_done, .int k_log_undone]))]) hD hS hA [0, 1, 2, 3, 4, 5, 6] rfl
    refine va_calli (va_runV (As := [.int v1]) (rest := []) ⟨hx, hb, hml, hown, hts⟩ (c_f_BargeBasin_linesChanged l D cT H.size a_t a_lines a_chart a_trial a_log a_shelves a_shown a_lines_sort a_lines_size a_lines_numbers a_lines_carried a_chart_kind a_chart_place a_chart_length a_chart_gate a_chart_across a_chart_wide a_chart_high a_chart_shape a_log_moves z_search z_plan k_shownCount k_status k_whyStep k_whyReason k_whyBarge k_lines_sort_5 k_lines_size k_lines_numbers k_chart_width k_chart_height k_chart_barges k_chart_walls k_chart_taken k_log_first k_log_done k_log_undone v1 _ _ _ _ _ hc_13) (cwV 1 hts gX6_tear_X6_linesChanged rfl rfl rfl (by decide +kernel) ⟨Nat.le_of_ble_eq_true rfl, Nat.le_of_ble_eq_true rfl⟩) ⟨fun a U g mk q => by obtain ⟨q0, q1, qP, qK, qN, qD⟩ := q; exact ⟨q0, q1, qP, va_K.moved (u := U) (U := U.calling g mk a) (Vm.Alike.refl U.vm) qK, jNw_same (u := U) (U := U.calling g mk a) rfl qN, qD⟩, va_recv hK hP (ci := 6) (q0 := 0) rfl rfl, fun U hU hW => ⟨rfl, by rw [hU], by rw [hU]; exact hPc, va_K.moved hW.alike hK, jNw_warm hW hN, hDc.weaken (fun _ _ _ _ => trivial)⟩⟩ rfl rfl hl.1 rfl (lv_room (Nat.le_of_ble_eq_true rfl)) dX6_tear_26 ⟨Nat.le_of_ble_eq_true rfl, Nat.le_of_ble_eq_true rfl⟩) hS (fun q _ h => hFc q h) hFc (fun r_8 u t H1 locs ht hvm er_14 hB hz1 hk1 hS => ?_)
    subst er_14
    obtain ⟨hP1, hK1, hD1⟩ := hB
    rw [ht] at hP1
    have hPD := va_join (wr := []) (w1 := [(a_t, .inr (6, [.ref a_lines, .ref a_chart, .ref a_trial, .ref a_log, .ref a_shelves, .ref a_shown, .int k_shownCount, .int k_status_9, .int k_whyStep, .int k_whyReason, .int k_whyBarge, z_search, z_plan])), (a_lines, .inr (2, [.ref a_lines_sort, .ref a_lines_size, .ref a_lines_numbers, .ref a_lines_carried])), (a_lines_sort, .inl (cT 0, 8, .inl k_lines_sort_5)), (a_lines_size, .inl (cT 0, 8, .inl k_lines_size)), (a_lines_numbers, .inl (cT 0, 64, .inl k_lines_numbers)), (a_chart, .inr (0, [.int k_chart_width, .int k_chart_height, .int k_chart_barges, .long k_chart_walls_10, .long k_chart_taken, .ref a_chart_kind, .ref a_chart_place, .ref a_chart_length, .ref a_chart_gate, .ref a_chart_across, .ref a_chart_wide, .ref a_chart_high, .ref a_chart_shape])), (a_log, .inr (3, [.ref a_log_moves, .int k_log_first, .int k_log_done_11, .int k_log_undone_12]))]) hP hD [0, 1, 2, 3, 4, 5, 6] [] rfl rfl (by decide) (by decide) hk1 hFc hP1 hD1
    clear hP hD
    obtain ⟨hP, hD⟩ := hPD
    replace hP := hP.sub (ws' := [(a_t, .inr (6, [.ref a_lines, .ref a_chart, .ref a_trial, .ref a_log, .ref a_shelves, .ref a_shown, .int k_shownCount, .int k_status_9, .int k_whyStep, .int k_whyReason, .int k_whyBarge, z_search, z_plan])), (a_lines, .inr (2, [.ref a_lines_sort, .ref a_lines_size, .ref a_lines_numbers, .ref a_lines_carried])), (a_lines_sort, .inl (cT 0, 8, .inl k_lines_sort_5)), (a_lines_size, .inl (cT 0, 8, .inl k_lines_size)), (a_lines_numbers, .inl (cT 0, 64, .inl k_lines_numbers)), (a_chart, .inr (0, [.int k_chart_width, .int k_chart_height, .int k_chart_barges, .long k_chart_walls_10, .long k_chart_taken, .ref a_chart_kind, .ref a_chart_place, .ref a_chart_length, .ref a_chart_gate, .ref a_chart_across, .ref a_chart_wide, .ref a_chart_high, .ref a_chart_shape])), (a_log, .inr (3, [.ref a_log_moves, .int k_log_first, .int k_log_done_11, .int k_log_undone_12]))]) [0, 1, 2, 3, 4, 5, 6] rfl
    replace hD := hD.sub (ws' := [(a_t, .inr (6, [.ref a_lines, .ref a_chart, .ref a_trial, .ref a_log, .ref a_shelves, .ref a_shown, .int k_shownCount, .int k_status_9, .int k_whyStep, .int k_whyReason, .int k_whyBarge, z_search, z_plan])), (a_lines, .inr (2, [.ref a_lines_sort, .ref a_lines_size, .ref a_lines_numbers, .ref a_lines_carried])), (a_lines_sort, .inl (cT 0, 8, .inl k_lines_sort_5)), (a_lines_size, .inl (cT 0, 8, .inl k_lines_size)), (a_lines_numbers, .inl (cT 0, 64, .inl k_lines_numbers)), (a_chart, .inr (0, [.int k_chart_width, .int k_chart_height, .int k_chart_barges, .long k_chart_walls_10, .long k_chart_taken, .ref a_chart_kind, .ref a_chart_place, .ref a_chart_length, .ref a_chart_gate, .ref a_chart_across, .ref a_chart_wide, .ref a_chart_high, .ref a_chart_shape])), (a_log, .inr (3, [.ref a_log_moves, .int k_log_first, .int k_log_done_11, .int k_log_undone_12]))]) [0, 1, 2, 3, 4, 5, 6] (by decide) rfl
    clear hPc hDc hFc hP1 hK1 hD1 hk1 hz1
    generalize H1 = H at hP hS ⊢
    replace hf := ob_bool hf
    obtain ⟨hz_15, hf⟩ := hf
    replace hf := ob_t6 hf
    obtain ⟨ee0, ee1, ee2, ee3, ee4, ee5⟩ := hf
    subst ee0
    subst ee1
    subst ee2
    subst ee3
    subst ee4
    subst ee5
    exact W.zret hx hb hr hz_15 (fun t ht hW => ⟨⟨_, (), rfl, rfl, by rw [ht]; exact hP, va_K.moved hW.alike hK, hD⟩, hS.F ht⟩) hS.2.2 dX6_tear_29
  · replace hf := ob_neg c_4 hf
    refine lv_aload_n hx hb dX6_tear_10 rfl (lv_at hl 1 rfl) ?_
    refine lv_iload_n hx hb dX6_tear_11 rfl (lv_at hl 0 rfl) ?_
    replace hf := ob_b hf
    obtain ⟨⟨zr_16, k_status_17⟩, hc_18, hf⟩ := hf
    replace hf := ob_un2 hf
    have hPc := hP.sub (ws' := [(a_t, .inr (6, [.ref a_lines, .ref a_chart, .ref a_trial, .ref a_log, .ref a_shelves, .ref a_shown, .int k_shownCount, .int k_status, .int k_whyStep, .int k_whyReason, .int k_whyBarge, z_search, z_plan]))]) [0] rfl
    have hDc := hD.sub (ws' := [(a_t, .inr (6, [.ref a_lines, .ref a_chart, .ref a_trial, .ref a_log, .ref a_shelves, .ref a_shown, .int k_shownCount, .int k_status, .int k_whyStep, .int k_whyReason, .int k_whyBarge, z_search, z_plan]))]) [0] (by decide) rfl
    have hFc := va_free (wc := [(a_t, .inr (6, [.ref a_lines, .ref a_chart, .ref a_trial, .ref a_log, .ref a_shelves, .ref a_shown, .int k_shownCount, .int k_status, .int k_whyStep, .int k_whyReason, .int k_whyBarge, z_search, z_plan]))]) hD hS hA [0] rfl
    refine va_calli (va_runV (As := [.int r_1]) (rest := []) ⟨hx, hb, hml, hown, hts⟩ (c_f_BargeBasin_deny l D cT H.size a_t a_lines a_chart a_trial a_log a_shelves a_shown z_search z_plan k_shownCount k_status k_whyStep k_whyReason k_whyBarge r_1 _ _ hc_18) (cwV 1 hts gX6_tear_X6_deny rfl rfl rfl (by decide +kernel) ⟨Nat.le_of_ble_eq_true rfl, Nat.le_of_ble_eq_true rfl⟩) ⟨fun a U g mk q => by obtain ⟨q0, q1, qP, qK, qN, qD⟩ := q; exact ⟨q0, q1, qP, va_K.moved (u := U) (U := U.calling g mk a) (Vm.Alike.refl U.vm) qK, jNw_same (u := U) (U := U.calling g mk a) rfl qN, qD⟩, va_recv hK hP (ci := 6) (q0 := 0) rfl rfl, fun U hU hW => ⟨rfl, by rw [hU], by rw [hU]; exact hPc, va_K.moved hW.alike hK, jNw_warm hW hN, hDc.weaken (fun _ _ _ _ => trivial)⟩⟩ rfl rfl hl.1 rfl (lv_room (Nat.le_of_ble_eq_true rfl)) dX6_tear_12 ⟨Nat.le_of_ble_eq_true rfl, Nat.le_of_ble_eq_true rfl⟩) hS (fun q _ h => hFc q h) hFc (fun r_16 u t H1 locs ht hvm er_19 hB hz1 hk1 hS => ?_)
    subst er_19
    obtain ⟨hP1, hK1, hD1⟩ := hB
    rw [ht] at hP1
    have hPD := va_join (wr := [(a_lines, .inr (2, [.ref a_lines_sort, .ref a_lines_size, .ref a_lines_numbers, .ref a_lines_carried])), (a_lines_sort, .inl (cT 0, 8, .inl k_lines_sort)), (a_lines_size, .inl (cT 0, 8, .inl k_lines_size)), (a_lines_numbers, .inl (cT 0, 64, .inl k_lines_numbers)), (a_chart, .inr (0, [.int k_chart_width, .int k_chart_height, .int k_chart_barges, .long k_chart_walls, .long k_chart_taken, .ref a_chart_kind, .ref a_chart_place, .ref a_chart_length, .ref a_chart_gate, .ref a_chart_across, .ref a_chart_wide, .ref a_chart_high, .ref a_chart_shape])), (a_log, .inr (3, [.ref a_log_moves, .int k_log_first, .int k_log_done, .int k_log_undone]))]) (w1 := [(a_t, .inr (6, [.ref a_lines, .ref a_chart, .ref a_trial, .ref a_log, .ref a_shelves, .ref a_shown, .int k_shownCount, .int k_status_17, .int k_whyStep, .int k_whyReason, .int k_whyBarge, z_search, z_plan]))]) hP hD [0] [1, 2, 3, 4, 5, 6] rfl rfl (by decide) (by decide) hk1 hFc hP1 hD1
    clear hP hD
    obtain ⟨hP, hD⟩ := hPD
    replace hP := hP.sub (ws' := [(a_t, .inr (6, [.ref a_lines, .ref a_chart, .ref a_trial, .ref a_log, .ref a_shelves, .ref a_shown, .int k_shownCount, .int k_status_17, .int k_whyStep, .int k_whyReason, .int k_whyBarge, z_search, z_plan])), (a_lines, .inr (2, [.ref a_lines_sort, .ref a_lines_size, .ref a_lines_numbers, .ref a_lines_carried])), (a_lines_sort, .inl (cT 0, 8, .inl k_lines_sort)), (a_lines_size, .inl (cT 0, 8, .inl k_lines_size)), (a_lines_numbers, .inl (cT 0, 64, .inl k_lines_numbers)), (a_chart, .inr (0, [.int k_chart_width, .int k_chart_height, .int k_chart_barges, .long k_chart_walls, .long k_chart_taken, .ref a_chart_kind, .ref a_chart_place, .ref a_chart_length, .ref a_chart_gate, .ref a_chart_across, .ref a_chart_wide, .ref a_chart_high, .ref a_chart_shape])), (a_log, .inr (3, [.ref a_log_moves, .int k_log_first, .int k_log_done, .int k_log_undone]))]) [6, 0, 1, 2, 3, 4, 5] rfl
    replace hD := hD.sub (ws' := [(a_t, .inr (6, [.ref a_lines, .ref a_chart, .ref a_trial, .ref a_log, .ref a_shelves, .ref a_shown, .int k_shownCount, .int k_status_17, .int k_whyStep, .int k_whyReason, .int k_whyBarge, z_search, z_plan])), (a_lines, .inr (2, [.ref a_lines_sort, .ref a_lines_size, .ref a_lines_numbers, .ref a_lines_carried])), (a_lines_sort, .inl (cT 0, 8, .inl k_lines_sort)), (a_lines_size, .inl (cT 0, 8, .inl k_lines_size)), (a_lines_numbers, .inl (cT 0, 64, .inl k_lines_numbers)), (a_chart, .inr (0, [.int k_chart_width, .int k_chart_height, .int k_chart_barges, .long k_chart_walls, .long k_chart_taken, .ref a_chart_kind, .ref a_chart_place, .ref a_chart_length, .ref a_chart_gate, .ref a_chart_across, .ref a_chart_wide, .ref a_chart_high, .ref a_chart_shape])), (a_log, .inr (3, [.ref a_log_moves, .int k_log_first, .int k_log_done, .int k_log_undone]))]) [6, 0, 1, 2, 3, 4, 5] (by decide) rfl
    clear hPc hDc hFc hP1 hK1 hD1 hk1 hz1
    generalize H1 = H at hP hS ⊢
    replace hf := ob_bool hf
    obtain ⟨hz_20, hf⟩ := hf
    replace hf := ob_t6 hf
    obtain ⟨ee0, ee1, ee2, ee3, ee4, ee5⟩ := hf
    subst ee0
    subst ee1
    subst ee2
    subst ee3
    subst ee4
    subst ee5
    exact W.zret hx hb hr hz_20 (fun t ht hW => ⟨⟨_, (), rfl, rfl, by rw [ht]; exact hP, va_K.moved hW.alike hK, hD⟩, hS.F ht⟩) hS.2.2 dX6_tear_15
abbrev rm_BargeBasin_isLengthOf : Room := { frames := 0, cells := 0, slots := 0, locals := 0 }
set_option maxHeartbeats 4000000 in
set_option maxRecDepth 100000 in
theorem c_f_BargeBasin_isLengthOf (l : Launch) (D : va_G) (cT : Nat → ClassId) (v0 : Int32) (v1 : Int32) (r0 : Int32) (hf : f_BargeBasin_isLengthOf v0 v1 = some r0) : Met l yX6_isLengthOf wsX6_isLengthOf rm_BargeBasin_isLengthOf (va_Pc [.int v0, .int v1] (fun U => True)) (vp_Si (fun r => r = r0)) 0 0 (fun _ => False) := by
  refine Met.ofW (cc := cX6_isLengthOf) (maxL := 2) (ret := (some .boolean)) (by decide) rfl ?_
  intro p e s m args below meth c s₁ B hml hv
  obtain ⟨rfl, -⟩ := hv
  have hx := B.exec
  have hb := B.bytes
  have hr := B.returns
  have hts := atoms_spec (ws := wsX6_isLengthOf) B.pre
  have hown : s.vm.findClass RX6 = some m.cls := findClass_of_methodNamed B.named
  have hlocks := B.notSynchronized
  have hl := lv_entry ([.int v0, .int v1]) (n := 2) (Nat.le_of_ble_eq_true rfl)
  rw [lg_entry_eq]
  generalize (lg_sl ([.int v0, .int v1]) ++ List.replicate (2 - (lg_sl ([.int v0, .int v1])).length) Slot.unset).toArray = ls at hl ⊢
  have hl : lv_has ls 2 [(0, .int v0), (1, .int v1)] := hl
  unfold f_BargeBasin_isLengthOf at hf
  refine lv_iload_n hx hb dX6_isLengthOf_0 rfl (lv_at hl 0 rfl) ?_
  by_cases c_1 : v0 = (1 : Int32)
  · replace hf := ob_pos c_1 hf
    refine lv_tableIn (off := 35) (tgt := 36) hx hb dX6_isLengthOf_1 (by rw [c_1]; decide) (by rw [c_1]; decide) (by rw [c_1]; decide) (by decide) ?_
    refine lv_iload_n hx hb dX6_isLengthOf_36 rfl (lv_at hl 1 rfl) ?_
    refine lv_iconst (v := 2) hx hb dX6_isLengthOf_37 (by decide) ?_
    refine lv_icmp_lt (tgt := 50) hx hb dX6_isLengthOf_38 (by decide) (fun c_2 => ?_) (fun c_2 => ?_)
    · replace hf := ob_pos c_2 hf
      refine lv_iconst (v := 0) hx hb dX6_isLengthOf_50 (by decide) ?_
      cases hf
      exact W.zret hx hb hr (by decide +kernel) (fun t ht hW => ⟨_, rfl, rfl, ht⟩) (fun q h => by cases h) dX6_isLengthOf_51
    · replace hf := ob_neg c_2 hf
      refine lv_iload_n hx hb dX6_isLengthOf_41 rfl (lv_at hl 1 rfl) ?_
      refine lv_iconst (v := 4) hx hb dX6_isLengthOf_42 (by decide) ?_
      refine lv_icmp_gt (tgt := 50) hx hb dX6_isLengthOf_43 (by decide) (fun c_3 => ?_) (fun c_3 => ?_)
      · replace hf := ob_pos c_3 hf
        refine lv_iconst (v := 0) hx hb dX6_isLengthOf_50 (by decide) ?_
        cases hf
        exact W.zret hx hb hr (by decide +kernel) (fun t ht hW => ⟨_, rfl, rfl, ht⟩) (fun q h => by cases h) dX6_isLengthOf_51
      · replace hf := ob_neg c_3 hf
        refine lv_iconst (v := 1) hx hb dX6_isLengthOf_46 (by decide) ?_
        refine lv_goto (tgt := 51) hx hb dX6_isLengthOf_47 (by decide) ?_
        cases hf
        exact W.zret hx hb hr (by decide +kernel) (fun t ht hW => ⟨_, rfl, rfl, ht⟩) (fun q h => by cases h) dX6_isLengthOf_51
  replace hf := ob_neg c_1 hf
  by_cases c_4 : v0 = (2 : Int32)
  · replace hf := ob_pos c_4 hf
    refine lv_tableIn (off := 51) (tgt := 52) hx hb dX6_isLengthOf_1 (by rw [c_4]; decide) (by rw [c_4]; decide) (by rw [c_4]; decide) (by decide) ?_
    refine lv_iload_n hx hb dX6_isLengthOf_52 rfl (lv_at hl 1 rfl) ?_
    refine lv_iconst (v := 1) hx hb dX6_isLengthOf_53 (by decide) ?_
    refine lv_icmp_ne (tgt := 61) hx hb dX6_isLengthOf_54 (by decide) (fun c_5 => ?_) (fun c_5 => ?_)
    · replace hf := ob_neg c_5 hf
      refine lv_iconst (v := 0) hx hb dX6_isLengthOf_61 (by decide) ?_
      cases hf
      exact W.zret hx hb hr (by decide +kernel) (fun t ht hW => ⟨_, rfl, rfl, ht⟩) (fun q h => by cases h) dX6_isLengthOf_62
    · replace hf := ob_pos c_5 hf
      refine lv_iconst (v := 1) hx hb dX6_isLengthOf_57 (by decide) ?_
      refine lv_goto (tgt := 62) hx hb dX6_isLengthOf_58 (by decide) ?_
      cases hf
      exact W.zret hx hb hr (by decide +kernel) (fun t ht hW => ⟨_, rfl, rfl, ht⟩) (fun q h => by cases h) dX6_isLengthOf_62
  replace hf := ob_neg c_4 hf
  by_cases c_6 : v0 = (3 : Int32)
  · replace hf := ob_pos c_6 hf
    refine lv_tableIn (off := 62) (tgt := 63) hx hb dX6_isLengthOf_1 (by rw [c_6]; decide) (by rw [c_6]; decide) (by rw [c_6]; decide) (by decide) ?_
    refine lv_iload_n hx hb dX6_isLengthOf_63 rfl (lv_at hl 1 rfl) ?_
    refine lv_iconst (v := 2) hx hb dX6_isLengthOf_64 (by decide) ?_
    refine lv_icmp_ne (tgt := 72) hx hb dX6_isLengthOf_65 (by decide) (fun c_7 => ?_) (fun c_7 => ?_)
    · replace hf := ob_neg c_7 hf
      refine lv_iconst (v := 0) hx hb dX6_isLengthOf_72 (by decide) ?_
      cases hf
      exact W.zret hx hb hr (by decide +kernel) (fun t ht hW => ⟨_, rfl, rfl, ht⟩) (fun q h => by cases h) dX6_isLengthOf_73
    · replace hf := ob_pos c_7 hf
      refine lv_iconst (v := 1) hx hb dX6_isLengthOf_68 (by decide) ?_
      refine lv_goto (tgt := 73) hx hb dX6_isLengthOf_69 (by decide) ?_
      cases hf
      exact W.zret hx hb hr (by decide +kernel) (fun t ht hW => ⟨_, rfl, rfl, ht⟩) (fun q h => by cases h) dX6_isLengthOf_73
  replace hf := ob_neg c_6 hf
  by_cases c_8 : v0 = (4 : Int32)
  · replace hf := ob_pos c_8 hf
    refine lv_tableIn (off := 51) (tgt := 52) hx hb dX6_isLengthOf_1 (by rw [c_8]; decide) (by rw [c_8]; decide) (by rw [c_8]; decide) (by decide) ?_
    refine lv_iload_n hx hb dX6_isLengthOf_52 rfl (lv_at hl 1 rfl) ?_
    refine lv_iconst (v := 1) hx hb dX6_isLengthOf_53 (by decide) ?_
    refine lv_icmp_ne (tgt := 61) hx hb dX6_isLengthOf_54 (by decide) (fun c_9 => ?_) (fun c_9 => ?_)
    · replace hf := ob_neg c_9 hf
      refine lv_iconst (v := 0) hx hb dX6_isLengthOf_61 (by decide) ?_
      cases hf
      exact W.zret hx hb hr (by decide +kernel) (fun t ht hW => ⟨_, rfl, rfl, ht⟩) (fun q h => by cases h) dX6_isLengthOf_62
    · replace hf := ob_pos c_9 hf
      refine lv_iconst (v := 1) hx hb dX6_isLengthOf_57 (by decide) ?_
      refine lv_goto (tgt := 62) hx hb dX6_isLengthOf_58 (by decide) ?_
      cases hf
      exact W.zret hx hb hr (by decide +kernel) (fun t ht hW => ⟨_, rfl, rfl, ht⟩) (fun q h => by cases h) dX6_isLengthOf_62
  replace hf := ob_neg c_8 hf
  by_cases c_10 : v0 = (5 : Int32)
  · replace hf := ob_pos c_10 hf
    refine lv_tableIn (off := 35) (tgt := 36) hx hb dX6_isLengthOf_1 (by rw [c_10]; decide) (by rw [c_10]; decide) (by rw [c_10]; decide) (by decide) ?_
    refine lv_iload_n hx hb dX6_isLengthOf_36 rfl (lv_at hl 1 rfl) ?_
    refine lv_iconst (v := 2) hx hb dX6_isLengthOf_37 (by decide) ?_
    refine lv_icmp_lt (tgt := 50) hx hb dX6_isLengthOf_38 (by decide) (fun c_11 => ?_) (fun c_11 => ?_)
    · replace hf := ob_pos c_11 hf
      refine lv_iconst (v := 0) hx hb dX6_isLengthOf_50 (by decide) ?_
      cases hf
      exact W.zret hx hb hr (by decide +kernel) (fun t ht hW => ⟨_, rfl, rfl, ht⟩) (fun q h => by cases h) dX6_isLengthOf_51
    · replace hf := ob_neg c_11 hf
      refine lv_iload_n hx hb dX6_isLengthOf_41 rfl (lv_at hl 1 rfl) ?_
      refine lv_iconst (v := 4) hx hb dX6_isLengthOf_42 (by decide) ?_
      refine lv_icmp_gt (tgt := 50) hx hb dX6_isLengthOf_43 (by decide) (fun c_12 => ?_) (fun c_12 => ?_)
      · replace hf := ob_pos c_12 hf
        refine lv_iconst (v := 0) hx hb dX6_isLengthOf_50 (by decide) ?_
        cases hf
        exact W.zret hx hb hr (by decide +kernel) (fun t ht hW => ⟨_, rfl, rfl, ht⟩) (fun q h => by cases h) dX6_isLengthOf_51
      · replace hf := ob_neg c_12 hf
        refine lv_iconst (v := 1) hx hb dX6_isLengthOf_46 (by decide) ?_
        refine lv_goto (tgt := 51) hx hb dX6_isLengthOf_47 (by decide) ?_
        cases hf
        exact W.zret hx hb hr (by decide +kernel) (fun t ht hW => ⟨_, rfl, rfl, ht⟩) (fun q h => by cases h) dX6_isLengthOf_51
  replace hf := ob_neg c_10 hf
  have nc_1 := lv_neT c_1 (a := 1) (by decide)
  have nc_4 := lv_neT c_4 (a := 2) (by decide)
  have nc_6 := lv_neT c_6 (a := 3) (by decide)
  have nc_8 := lv_neT c_8 (a := 4) (by decide)
  have nc_10 := lv_neT c_10 (a := 5) (by decide)
  refine lv_tableOut (tgt := 74) hx hb dX6_isLengthOf_1 (by omega) (by decide) ?_
  refine lv_iconst (v := 0) hx hb dX6_isLengthOf_74 (by decide) ?_
  cases hf
  exact W.zret hx hb hr (by decide +kernel) (fun t ht hW => ⟨_, rfl, rfl, ht⟩) (fun q h => by cases h) dX6_isLengthOf_75
theorem iw_wsX6_isNoField_X6 : ∀ w ∈ wsX60, w ∈ wsX6_isNoField := fun _ h => List.mem_cons_of_mem _ (List.mem_append_left _ (List.mem_append_right _ h))
theorem iw_wsX6_isNoField_X0 : ∀ w ∈ wsX00, w ∈ wsX6_isNoField := fun _ h => List.mem_cons_of_mem _ (List.mem_append_right _ h)
abbrev rm_BargeBasin_isNoField : Room := { frames := 1, cells := 0, slots := 0, locals := 21 }
set_option maxHeartbeats 4000000 in
set_option maxRecDepth 100000 in
theorem c_f_BargeBasin_isNoField (l : Launch) (D : va_G) (cT : Nat → ClassId) (a_t a_lines a_chart a_trial a_log a_shelves a_shown a_chart_kind a_chart_place a_chart_length a_chart_gate a_chart_across a_chart_wide a_chart_high a_chart_shape : Nat) (z_search z_plan : Value) (k_shownCount : Int32) (k_status : Int32) (k_whyStep : Int32) (k_whyReason : Int32) (k_whyBarge : Int32) (k_chart_width : Int32) (k_chart_height : Int32) (k_chart_barges : Int32) (k_chart_walls : Int64) (k_chart_taken : Int64) (v1 : Int32) (v2 : Int32) (r0 : Int32) (hf : f_BargeBasin_isNoField v1 v2 k_chart_width k_chart_height = some r0) : Met l yX6_isNoField wsX6_isNoField rm_BargeBasin_isNoField (va_Pc [.ref a_t, .int v1, .int v2] (fun U => va_P D vwCl [(a_t, .inr (6, [.ref a_lines, .ref a_chart, .ref a_trial, .ref a_log, .ref a_shelves, .ref a_shown, .int k_shownCount, .int k_status, .int k_whyStep, .int k_whyReason, .int k_whyBarge, z_search, z_plan])), (a_chart, .inr (0, [.int k_chart_width, .int k_chart_height, .int k_chart_barges, .long k_chart_walls, .long k_chart_taken, .ref a_chart_kind, .ref a_chart_place, .ref a_chart_length, .ref a_chart_gate, .ref a_chart_across, .ref a_chart_wide, .ref a_chart_high, .ref a_chart_shape]))] U.heap ∧ va_K D vwCl (jT cT) U ∧ jNw U)) (vp_Si (fun r => r = r0)) 0 0 (fun _ => False) := by
  refine Met.ofW (cc := cX6_isNoField) (maxL := 3) (ret := (some .boolean)) (by decide) rfl ?_
  intro p e s m args below meth c s₁ B hml hv
  obtain ⟨rfl, hP, hK, hN⟩ := hv
  have hx := B.exec
  have hb := B.bytes
  have hr := B.returns
  have hts := atoms_spec (ws := wsX6_isNoField) B.pre
  have hown : s.vm.findClass RX6 = some m.cls := findClass_of_methodNamed B.named
  have hlocks := B.notSynchronized
  have hl := lv_entry ([.ref a_t, .int v1, .int v2]) (n := 3) (Nat.le_of_ble_eq_true rfl)
  rw [lg_entry_eq]
  generalize (lg_sl ([.ref a_t, .int v1, .int v2]) ++ List.replicate (3 - (lg_sl ([.ref a_t, .int v1, .int v2])).length) Slot.unset).toArray = ls at hl ⊢
  have hl : lv_has ls 3 [(0, .ref a_t), (1, .int v1), (2, .int v2)] := hl
  unfold f_BargeBasin_isNoField at hf
  refine lv_iload_n hx hb dX6_isNoField_0 rfl (lv_at hl 1 rfl) ?_
  refine lv_if_lt (tgt := 23) hx hb dX6_isNoField_1 (by decide) (fun c_1 => ?_) (fun c_1 => ?_)
  · replace hf := ob_pos c_1 hf
    refine lv_iconst (v := 1) hx hb dX6_isNoField_23 (by decide) ?_
    refine lv_goto (tgt := 28) hx hb dX6_isNoField_24 (by decide) ?_
    cases hf
    exact W.zret hx hb hr (by decide +kernel) (fun t ht hW => ⟨_, rfl, rfl, ht⟩) (fun q h => by cases h) dX6_isNoField_28
  · replace hf := ob_neg c_1 hf
    refine lv_iload_n hx hb dX6_isNoField_4 rfl (lv_at hl 1 rfl) ?_
    refine lv_aload_n hx hb dX6_isNoField_5 rfl (lv_at hl 0 rfl) ?_
    refine va_get (D := D) (ci := 6) (v := .ref a_chart) (C := RX6) (T := TX6) (N := 13) hx hb hts iw_wsX6_isNoField_X6 hown hK hP 0 rfl rfl 1 (by decide) (hts (.fieldLink RX6 19 "BargeBasin" "chart" "LBargeBasin$Chart;") (List.mem_of_getElem? (i := 1) (by decide +kernel))) (fun _ h9 => h9) rfl dX6_isNoField_6 ?_
    refine va_get (D := D) (ci := 0) (v := .int k_chart_width) (C := RX0) (T := TX0) (N := 13) hx hb hts iw_wsX6_isNoField_X0 hown hK hP 1 rfl rfl 0 (by decide) (hts (.fieldLink RX6 75 "BargeBasin$Chart" "width" "I") (List.mem_of_getElem? (i := 2) (by decide +kernel))) (fun _ h9 => h9) rfl dX6_isNoField_9 ?_
    refine lv_icmp_ge (tgt := 23) hx hb dX6_isNoField_12 (by decide) (fun c_2 => ?_) (fun c_2 => ?_)
    · replace hf := ob_pos c_2 hf
      refine lv_iconst (v := 1) hx hb dX6_isNoField_23 (by decide) ?_
      refine lv_goto (tgt := 28) hx hb dX6_isNoField_24 (by decide) ?_
      cases hf
      exact W.zret hx hb hr (by decide +kernel) (fun t ht hW => ⟨_, rfl, rfl, ht⟩) (fun q h => by cases h) dX6_isNoField_28
    · replace hf := ob_neg c_2 hf
      refine lv_aload_n hx hb dX6_isNoField_15 rfl (lv_at hl 0 rfl) ?_
      refine lv_iload_n hx hb dX6_isNoField_16 rfl (lv_at hl 2 rfl) ?_
      replace hf := ob_b hf
      obtain ⟨zr_3, hc_4, hf⟩ := hf
      refine vp_callSi (W.runV (As := [.int v2]) (rest := []) ⟨hx, hb, hml, hown, hts⟩ (c_f_BargeBasin_isNoLine l D cT a_t a_lines a_chart a_trial a_log a_shelves a_shown a_chart_kind a_chart_place a_chart_length a_chart_gate a_chart_across a_chart_wide a_chart_high a_chart_shape z_search z_plan k_shownCount k_status k_whyStep k_whyReason k_whyBarge k_chart_width k_chart_height k_chart_barges k_chart_walls k_chart_taken v2 _ hc_4) (cwV 1 hts gX6_isNoField_X6_isNoLine rfl rfl rfl (by decide +kernel) ⟨Nat.le_of_ble_eq_true rfl, Nat.le_of_ble_eq_true rfl⟩) ⟨fun a U g mk q => by obtain ⟨q0, qP, qK, qN⟩ := q; exact ⟨q0, qP, va_K.moved (u := U) (U := U.calling g mk a) (Vm.Alike.refl U.vm) qK, jNw_same (u := U) (U := U.calling g mk a) rfl qN⟩, va_recv hK hP (ci := 6) (q0 := 0) rfl rfl, fun U hU hW => ⟨rfl, by rw [hU]; exact hP.sub [0, 1] rfl, va_K.moved hW.alike hK, jNw_warm hW hN⟩⟩ rfl rfl hl.1 rfl (lv_room (Nat.le_of_ble_eq_true rfl)) dX6_isNoField_17 ⟨Nat.le_of_ble_eq_true rfl, Nat.le_of_ble_eq_true rfl⟩) (fun r_3 er_5 => ?_)
      subst er_5
      refine lv_if_eq (tgt := 27) hx hb dX6_isNoField_20 (by decide) (fun c_6 => ?_) (fun c_6 => ?_)
      · replace hf := ob_pos c_6 hf
        refine lv_iconst (v := 0) hx hb dX6_isNoField_27 (by decide) ?_
        cases hf
        exact W.zret hx hb hr (by decide +kernel) (fun t ht hW => ⟨_, rfl, rfl, ht⟩) (fun q h => by cases h) dX6_isNoField_28
      · replace hf := ob_neg c_6 hf
        refine lv_iconst (v := 1) hx hb dX6_isNoField_23 (by decide) ?_
        refine lv_goto (tgt := 28) hx hb dX6_isNoField_24 (by decide) ?_
        cases hf
        exact W.zret hx hb hr (by decide +kernel) (fun t ht hW => ⟨_, rfl, rfl, ht⟩) (fun q h => by cases h) dX6_isNoField_28
theorem iw_wsX6_barge_X6 : ∀ w ∈ wsX60, w ∈ wsX6_barge := fun _ h => List.mem_cons_of_mem _ (List.mem_append_left _ (List.mem_append_left _ (List.mem_append_right _ h)))
theorem iw_wsX6_barge_X0 : ∀ w ∈ wsX00, w ∈ wsX6_barge := fun _ h => List.mem_cons_of_mem _ (List.mem_append_left _ (List.mem_append_right _ h))
theorem iw_wsX6_barge_X3 : ∀ w ∈ wsX30, w ∈ wsX6_barge := fun _ h => List.mem_cons_of_mem _ (List.mem_append_right _ h)
abbrev rm_BargeBasin_barge : Room := { frames := 3, cells := 0, slots := 0, locals := 71 }
set_option maxHeartbeats 4000000 in
set_option maxRecDepth 100000 in
theorem c_f_BargeBasin_barge (l : Launch) (D : va_G) (cT : Nat → ClassId) (sz : Nat) (a_t a_lines a_chart a_trial a_log a_shelves a_shown a_chart_kind a_chart_place a_chart_length a_chart_gate a_chart_across a_chart_wide a_chart_high a_chart_shape a_log_moves : Nat) (z_search z_plan : Value) (k_shownCount : Int32) (k_status : Int32) (k_whyStep : Int32) (k_whyReason : Int32) (k_whyBarge : Int32) (k_chart_width : Int32) (k_chart_height : Int32) (k_chart_barges : Int32) (k_chart_walls : Int64) (k_chart_taken : Int64) (k_chart_kind : Nat → Int32) (k_chart_place : Nat → Int32) (k_chart_length : Nat → Int32) (k_chart_gate : Nat → Int32) (k_chart_across : Nat → Int32) (k_chart_wide : Nat → Int32) (k_chart_high : Nat → Int32) (k_chart_shape : Nat → Int64) (k_log_first : Int32) (k_log_done : Int32) (k_log_undone : Int32) (v1 : Int32) (v2 : Int32) (v3 : Int32) (v4 : Int32) (v5 : Int32) (r0 : Int32) (k_status₉ : Int32) (k_chart_barges₉ : Int32) (k_chart_taken₉ : Int64) (k_chart_kind₉ : Nat → Int32) (k_chart_place₉ : Nat → Int32) (k_chart_length₉ : Nat → Int32) (k_chart_gate₉ : Nat → Int32) (k_chart_across₉ : Nat → Int32) (k_chart_wide₉ : Nat → Int32) (k_chart_high₉ : Nat → Int32) (k_chart_shape₉ : Nat → Int64) (k_log_done₉ : Int32) (k_log_undone₉ : Int32) (hf : f_BargeBasin_barge v1 v2 v3 v4 v5 k_status k_chart_width k_chart_height k_chart_barges k_chart_walls k_chart_taken k_chart_kind k_chart_place k_chart_length k_chart_gate k_chart_across k_chart_wide k_chart_high k_chart_shape k_log_done k_log_undone = some (r0, k_status₉, k_chart_barges₉, k_chart_taken₉, k_chart_kind₉, k_chart_place₉, k_chart_length₉, k_chart_gate₉, k_chart_across₉, k_chart_wide₉, k_chart_high₉, k_chart_shape₉, k_log_done₉, k_log_undone₉)) : Met l yX6_barge wsX6_barge rm_BargeBasin_barge (va_Pc [.ref a_t, .int v1, .int v2, .int v3, .int v4, .int v5] (fun U => U.heap.size = sz ∧ va_P D vwCl [(a_t, .inr (6, [.ref a_lines, .ref a_chart, .ref a_trial, .ref a_log, .ref a_shelves, .ref a_shown, .int k_shownCount, .int k_status, .int k_whyStep, .int k_whyReason, .int k_whyBarge, z_search, z_plan])), (a_chart, .inr (0, [.int k_chart_width, .int k_chart_height, .int k_chart_barges, .long k_chart_walls, .long k_chart_taken, .ref a_chart_kind, .ref a_chart_place, .ref a_chart_length, .ref a_chart_gate, .ref a_chart_across, .ref a_chart_wide, .ref a_chart_high, .ref a_chart_shape])), (a_chart_kind, .inl (cT 0, 12, .inl k_chart_kind)), (a_chart_place, .inl (cT 0, 12, .inl k_chart_place)), (a_chart_length, .inl (cT 0, 12, .inl k_chart_length)), (a_chart_gate, .inl (cT 0, 12, .inl k_chart_gate)), (a_chart_across, .inl (cT 2, 12, .inl k_chart_across)), (a_chart_wide, .inl (cT 0, 12, .inl k_chart_wide)), (a_chart_high, .inl (cT 0, 12, .inl k_chart_high)), (a_chart_shape, .inl (cT 1, 12, .inr (.inl k_chart_shape))), (a_log, .inr (3, [.ref a_log_moves, .int k_log_first, .int k_log_done, .int k_log_undone]))] U.heap ∧ va_K D vwCl (jT cT) U ∧ jNw U ∧ va_D (fun _ => True) [(a_t, .inr (6, [.ref a_lines, .ref a_chart, .ref a_trial, .ref a_log, .ref a_shelves, .ref a_shown, .int k_shownCount, .int k_status, .int k_whyStep, .int k_whyReason, .int k_whyBarge, z_search, z_plan])), (a_chart, .inr (0, [.int k_chart_width, .int k_chart_height, .int k_chart_barges, .long k_chart_walls, .long k_chart_taken, .ref a_chart_kind, .ref a_chart_place, .ref a_chart_length, .ref a_chart_gate, .ref a_chart_across, .ref a_chart_wide, .ref a_chart_high, .ref a_chart_shape])), (a_chart_kind, .inl (cT 0, 12, .inl k_chart_kind)), (a_chart_place, .inl (cT 0, 12, .inl k_chart_place)), (a_chart_length, .inl (cT 0, 12, .inl k_chart_length)), (a_chart_gate, .inl (cT 0, 12, .inl k_chart_gate)), (a_chart_across, .inl (cT 2, 12, .inl k_chart_across)), (a_chart_wide, .inl (cT 0, 12, .inl k_chart_wide)), (a_chart_high, .inl (cT 0, 12, .inl k_chart_high)), (a_chart_shape, .inl (cT 1, 12, .inr (.inl k_chart_shape))), (a_log, .inr (3, [.ref a_log_moves, .int k_log_first, .int k_log_done, .int k_log_undone]))])) (va_Qi (fun r (_ : Unit) => r = r0) (fun (_ : Unit) t => va_P D vwCl [(a_t, .inr (6, [.ref a_lines, .ref a_chart, .ref a_trial, .ref a_log, .ref a_shelves, .ref a_shown, .int k_shownCount, .int k_status₉, .int k_whyStep, .int k_whyReason, .int k_whyBarge, z_search, z_plan])), (a_chart, .inr (0, [.int k_chart_width, .int k_chart_height, .int k_chart_barges₉, .long k_chart_walls, .long k_chart_taken₉, .ref a_chart_kind, .ref a_chart_place, .ref a_chart_length, .ref a_chart_gate, .ref a_chart_across, .ref a_chart_wide, .ref a_chart_high, .ref a_chart_shape])), (a_chart_kind, .inl (cT 0, 12, .inl k_chart_kind₉)), (a_chart_place, .inl (cT 0, 12, .inl k_chart_place₉)), (a_chart_length, .inl (cT 0, 12, .inl k_chart_length₉)), (a_chart_gate, .inl (cT 0, 12, .inl k_chart_gate₉)), (a_chart_across, .inl (cT 2, 12, .inl k_chart_across₉)), (a_chart_wide, .inl (cT 0, 12, .inl k_chart_wide₉)), (a_chart_high, .inl (cT 0, 12, .inl k_chart_high₉)), (a_chart_shape, .inl (cT 1, 12, .inr (.inl k_chart_shape₉))), (a_log, .inr (3, [.ref a_log_moves, .int k_log_first, .int k_log_done₉, .int k_log_undone₉]))] t.heap ∧ va_K D vwCl (jT cT) t ∧ va_D (va_A [(a_t, .inr (6, [.ref a_lines, .ref a_chart, .ref a_trial, .ref a_log, .ref a_shelves, .ref a_shown, .int k_shownCount, .int k_status, .int k_whyStep, .int k_whyReason, .int k_whyBarge, z_search, z_plan])), (a_chart, .inr (0, [.int k_chart_width, .int k_chart_height, .int k_chart_barges, .long k_chart_walls, .long k_chart_taken, .ref a_chart_kind, .ref a_chart_place, .ref a_chart_length, .ref a_chart_gate, .ref a_chart_across, .ref a_chart_wide, .ref a_chart_high, .ref a_chart_shape])), (a_chart_kind, .inl (cT 0, 12, .inl k_chart_kind)), (a_chart_place, .inl (cT 0, 12, .inl k_chart_place)), (a_chart_length, .inl (cT 0, 12, .inl k_chart_length)), (a_chart_gate, .inl (cT 0, 12, .inl k_chart_gate)), (a_chart_across, .inl (cT 2, 12, .inl k_chart_across)), (a_chart_wide, .inl (cT 0, 12, .inl k_chart_wide)), (a_chart_high, .inl (cT 0, 12, .inl k_chart_high)), (a_chart_shape, .inl (cT 1, 12, .inr (.inl k_chart_shape))), (a_log, .inr (3, [.ref a_log_moves, .int k_log_first, .int k_log_done, .int k_log_undone]))] sz) [(a_t, .inr (6, [.ref a_lines, .ref a_chart, .ref a_trial, .ref a_log, .ref a_shelves, .ref a_shown, .int k_shownCount, .int k_status₉, .int k_whyStep, .int k_whyReason, .int k_whyBarge, z_search, z_plan])), (a_chart, .inr (0, [.int k_chart_width, .int k_chart_height, .int k_chart_barges₉, .long k_chart_walls, .long k_chart_taken₉, .ref a_chart_kind, .ref a_chart_place, .ref a_chart_length, .ref a_chart_gate, .ref a_chart_across, .ref a_chart_wide, .ref a_chart_high, .ref a_chart_shape])), (a_chart_kind, .inl (cT 0, 12, .inl k_chart_kind₉)), (a_chart_place, .inl (cT 0, 12, .inl k_chart_place₉)), (a_chart_length, .inl (cT 0, 12, .inl k_chart_length₉)), (a_chart_gate, .inl (cT 0, 12, .inl k_chart_gate₉)), (a_chart_across, .inl (cT 2, 12, .inl k_chart_across₉)), (a_chart_wide, .inl (cT 0, 12, .inl k_chart_wide₉)), (a_chart_high, .inl (cT 0, 12, .inl k_chart_high₉)), (a_chart_shape, .inl (cT 1, 12, .inr (.inl k_chart_shape₉))), (a_log, .inr (3, [.ref a_log_moves, .int k_log_first, .int k_log_done₉, .int k_log_undone₉]))]) (va_A [(a_t, .inr (6, [.ref a_lines, .ref a_chart, .ref a_trial, .ref a_log, .ref a_shelves, .ref a_shown, .int k_shownCount, .int k_status, .int k_whyStep, .int k_whyReason, .int k_whyBarge, z_search, z_plan])), (a_chart, .inr (0, [.int k_chart_width, .int k_chart_height, .int k_chart_barges, .long k_chart_walls, .long k_chart_taken, .ref a_chart_kind, .ref a_chart_place, .ref a_chart_length, .ref a_chart_gate, .ref a_chart_across, .ref a_chart_wide, .ref a_chart_high, .ref a_chart_shape])), (a_chart_kind, .inl (cT 0, 12, .inl k_chart_kind)), (a_chart_place, .inl (cT 0, 12, .inl k_chart_place)), (a_chart_length, .inl (cT 0, 12, .inl k_chart_length)), (a_chart_gate, .inl (cT 0, 12, .inl k_chart_gate)), (a_chart_across, .inl (cT 2, 12, .inl k_chart_across)), (a_chart_wide, .inl (cT 0, 12, .inl k_chart_wide)), (a_chart_high, .inl (cT 0, 12, .inl k_chart_high)), (a_chart_shape, .inl (cT 1, 12, .inr (.inl k_chart_shape))), (a_log, .inr (3, [.ref a_log_moves, .int k_log_first, .int k_log_done, .int k_log_undone]))] sz)) 0 0 (va_A [(a_t, .inr (6, [.ref a_lines, .ref a_chart, .ref a_trial, .ref a_log, .ref a_shelves, .ref a_shown, .int k_shownCount, .int k_status, .int k_whyStep, .int k_whyReason, .int k_whyBarge, z_search, z_plan])), (a_chart, .inr (0, [.int k_chart_width, .int k_chart_height, .int k_chart_barges, .long k_chart_walls, .long k_chart_taken, .ref a_chart_kind, .ref a_chart_place, .ref a_chart_length, .ref a_chart_gate, .ref a_chart_across, .ref a_chart_wide, .ref a_chart_high, .ref a_chart_shape])), (a_chart_kind, .inl (cT 0, 12, .inl k_chart_kind)), (a_chart_place, .inl (cT 0, 12, .inl k_chart_place)), (a_chart_length, .inl (cT 0, 12, .inl k_chart_length)), (a_chart_gate, .inl (cT 0, 12, .inl k_chart_gate)), (a_chart_across, .inl (cT 2, 12, .inl k_chart_across)), (a_chart_wide, .inl (cT 0, 12, .inl k_chart_wide)), (a_chart_high, .inl (cT 0, 12, .inl k_chart_high)), (a_chart_shape, .inl (cT 1, 12, .inr (.inl k_chart_shape))), (a_log, .inr (3, [.ref a_log_moves, .int k_log_first, .int k_log_done, .int k_log_undone]))] sz) := by
  refine Met.ofW (cc := cX6_barge) (maxL := 7) (ret := (some .int)) (by decide) rfl ?_
  intro p e s m args below meth c s₁ B hml hv
  obtain ⟨rfl, hsz, hP, hK, hN, hD0⟩ := hv
  have hx := B.exec
  have hb := B.bytes
  have hr := B.returns
  have hts := atoms_spec (ws := wsX6_barge) B.pre
  have hown : s.vm.findClass RX6 = some m.cls := findClass_of_methodNamed B.named
  have hlocks := B.notSynchronized
  subst hsz
  have hD := hD0.self (sz := s.heap.size)
  clear hD0
  generalize hAe : va_A [(a_t, .inr (6, [.ref a_lines, .ref a_chart, .ref a_trial, .ref a_log, .ref a_shelves, .ref a_shown, .int k_shownCount, .int k_status, .int k_whyStep, .int k_whyReason, .int k_whyBarge, z_search, z_plan])), (a_chart, .inr (0, [.int k_chart_width, .int k_chart_height, .int k_chart_barges, .long k_chart_walls, .long k_chart_taken, .ref a_chart_kind, .ref a_chart_place, .ref a_chart_length, .ref a_chart_gate, .ref a_chart_across, .ref a_chart_wide, .ref a_chart_high, .ref a_chart_shape])), (a_chart_kind, .inl (cT 0, 12, .inl k_chart_kind)), (a_chart_place, .inl (cT 0, 12, .inl k_chart_place)), (a_chart_length, .inl (cT 0, 12, .inl k_chart_length)), (a_chart_gate, .inl (cT 0, 12, .inl k_chart_gate)), (a_chart_across, .inl (cT 2, 12, .inl k_chart_across)), (a_chart_wide, .inl (cT 0, 12, .inl k_chart_wide)), (a_chart_high, .inl (cT 0, 12, .inl k_chart_high)), (a_chart_shape, .inl (cT 1, 12, .inr (.inl k_chart_shape))), (a_log, .inr (3, [.ref a_log_moves, .int k_log_first, .int k_log_done, .int k_log_undone]))] s.heap.size = A at hD ⊢
  have hA : ∀ q : Nat, s.heap.size ≤ q → A q := fun q h => by rw [← hAe]; exact Or.inr h
  clear hAe
  have hl := lv_entry ([.ref a_t, .int v1, .int v2, .int v3, .int v4, .int v5]) (n := 7) (Nat.le_of_ble_eq_true rfl)
  rw [lg_entry_eq]
  generalize (lg_sl ([.ref a_t, .int v1, .int v2, .int v3, .int v4, .int v5]) ++ List.replicate (7 - (lg_sl ([.ref a_t, .int v1, .int v2, .int v3, .int v4, .int v5])).length) Slot.unset).toArray = ls at hl ⊢
  have hl : lv_has ls 7 [(0, .ref a_t), (1, .int v1), (2, .int v2), (3, .int v3), (4, .int v4), (5, .int v5)] := hl
  refine j_nameQ (fun Q hQ => ?_)
  have J54 : ∀ (s0 : Int32) (k_status : Int32) (k_chart_barges : Int32) (k_chart_taken : Int64) (k_chart_kind : Nat → Int32) (k_chart_place : Nat → Int32) (k_chart_length : Nat → Int32) (k_chart_gate : Nat → Int32) (k_chart_across : Nat → Int32) (k_chart_wide : Nat → Int32) (k_chart_high : Nat → Int32) (k_chart_shape : Nat → Int64) (k_log_done : Int32) (k_log_undone : Int32), f_BargeBasin_barge_J54 v1 v2 v3 v4 s0 k_status k_chart_width k_chart_height k_chart_barges k_chart_walls k_chart_taken k_chart_kind k_chart_place k_chart_length k_chart_gate k_chart_across k_chart_wide k_chart_high k_chart_shape k_log_done k_log_undone = some (r0, k_status₉, k_chart_barges₉, k_chart_taken₉, k_chart_kind₉, k_chart_place₉, k_chart_length₉, k_chart_gate₉, k_chart_across₉, k_chart_wide₉, k_chart_high₉, k_chart_shape₉, k_log_done₉, k_log_undone₉) → ∀ (H : Heap) (locs : List Loc), va_P D vwCl [(a_t, .inr (6, [.ref a_lines, .ref a_chart, .ref a_trial, .ref a_log, .ref a_shelves, .ref a_shown, .int k_shownCount, .int k_status, .int k_whyStep, .int k_whyReason, .int k_whyBarge, z_search, z_plan])), (a_chart, .inr (0, [.int k_chart_width, .int k_chart_height, .int k_chart_barges, .long k_chart_walls, .long k_chart_taken, .ref a_chart_kind, .ref a_chart_place, .ref a_chart_length, .ref a_chart_gate, .ref a_chart_across, .ref a_chart_wide, .ref a_chart_high, .ref a_chart_shape])), (a_chart_kind, .inl (cT 0, 12, .inl k_chart_kind)), (a_chart_place, .inl (cT 0, 12, .inl k_chart_place)), (a_chart_length, .inl (cT 0, 12, .inl k_chart_length)), (a_chart_gate, .inl (cT 0, 12, .inl k_chart_gate)), (a_chart_across, .inl (cT 2, 12, .inl k_chart_across)), (a_chart_wide, .inl (cT 0, 12, .inl k_chart_wide)), (a_chart_high, .inl (cT 0, 12, .inl k_chart_high)), (a_chart_shape, .inl (cT 1, 12, .inr (.inl k_chart_shape))), (a_log, .inr (3, [.ref a_log_moves, .int k_log_first, .int k_log_done, .int k_log_undone]))] H → va_D A [(a_t, .inr (6, [.ref a_lines, .ref a_chart, .ref a_trial, .ref a_log, .ref a_shelves, .ref a_shown, .int k_shownCount, .int k_status, .int k_whyStep, .int k_whyReason, .int k_whyBarge, z_search, z_plan])), (a_chart, .inr (0, [.int k_chart_width, .int k_chart_height, .int k_chart_barges, .long k_chart_walls, .long k_chart_taken, .ref a_chart_kind, .ref a_chart_place, .ref a_chart_length, .ref a_chart_gate, .ref a_chart_across, .ref a_chart_wide, .ref a_chart_high, .ref a_chart_shape])), (a_chart_kind, .inl (cT 0, 12, .inl k_chart_kind)), (a_chart_place, .inl (cT 0, 12, .inl k_chart_place)), (a_chart_length, .inl (cT 0, 12, .inl k_chart_length)), (a_chart_gate, .inl (cT 0, 12, .inl k_chart_gate)), (a_chart_across, .inl (cT 2, 12, .inl k_chart_across)), (a_chart_wide, .inl (cT 0, 12, .inl k_chart_wide)), (a_chart_high, .inl (cT 0, 12, .inl k_chart_high)), (a_chart_shape, .inl (cT 1, 12, .inr (.inl k_chart_shape))), (a_log, .inr (3, [.ref a_log_moves, .int k_log_first, .int k_log_done, .int k_log_undone]))] → va_S A s.heap H locs → ∀ (ls : Array Slot), lv_has ls 7 [(0, .ref a_t), (1, .int v1), (2, .int v2), (3, .int v3), (4, .int v4)] → W p l e (headSpec wsX6_barge rm_BargeBasin_barge).room s m ([.ref a_t, .int v1, .int v2, .int v3, .int v4, .int v5] : List Value).toArray below meth c H locs 0 0 Q (F0 m 54 ls [.int s0]) := by
    intro s0 k_status k_chart_barges k_chart_taken k_chart_kind k_chart_place k_chart_length k_chart_gate k_chart_across k_chart_wide k_chart_high k_chart_shape k_log_done k_log_undone hf H locs hP hD hS ls hl
    unfold f_BargeBasin_barge_J54 at hf
    refine lv_istore (lv' := [(6, .int s0), (0, .ref a_t), (1, .int v1), (2, .int v2), (3, .int v3), (4, .int v4)]) hx hb dX6_barge_54 hl (by decide) rfl (fun ls hl => ?_)
    refine lv_aload_n hx hb dX6_barge_56 rfl (lv_at hl 1 rfl) ?_
    refine va_get (D := D) (ci := 6) (v := .ref a_chart) (C := RX6) (T := TX6) (N := 13) hx hb hts iw_wsX6_barge_X6 hown hK hP 0 rfl rfl 1 (by decide) (hts (.fieldLink RX6 19 "BargeBasin" "chart" "LBargeBasin$Chart;") (List.mem_of_getElem? (i := 1) (by decide +kernel))) (fun _ h9 => h9) rfl dX6_barge_57 ?_
    refine lv_iload_n hx hb dX6_barge_60 rfl (lv_at hl 2 rfl) ?_
    refine lv_iload_n hx hb dX6_barge_61 rfl (lv_at hl 3 rfl) ?_
    refine lv_iload_n hx hb dX6_barge_62 rfl (lv_at hl 4 rfl) ?_
    refine lv_iload hx hb dX6_barge_63 (lv_at hl 5 rfl) ?_
    refine lv_iload hx hb dX6_barge_65 (lv_at hl 0 rfl) ?_
    replace hf := ob_b hf
    obtain ⟨zr_18, hc_19, hf⟩ := hf
    refine vp_callSi (W.runV (As := [.int v1, .int v2, .int v3, .int v4, .int s0]) (rest := []) ⟨hx, hb, hml, hown, hts⟩ (c_f_Chart_fits l D cT a_chart a_chart_kind a_chart_place a_chart_length a_chart_gate a_chart_across a_chart_wide a_chart_high a_chart_shape k_chart_width k_chart_height k_chart_barges k_chart_walls k_chart_taken v1 v2 v3 v4 s0 _ hc_19) (cwV 5 hts gX6_barge_X0_fits rfl rfl rfl (by decide +kernel) ⟨Nat.le_of_ble_eq_true rfl, Nat.le_of_ble_eq_true rfl⟩) ⟨fun a U g mk q => by obtain ⟨q0, qP, qK, qN⟩ := q; exact ⟨q0, qP, va_K.moved (u := U) (U := U.calling g mk a) (Vm.Alike.refl U.vm) qK, jNw_same (u := U) (U := U.calling g mk a) rfl qN⟩, va_recv hK hP (ci := 0) (q0 := 1) rfl rfl, fun U hU hW => ⟨rfl, by rw [hU]; exact hP.sub [1] rfl, va_K.moved hW.alike hK, jNw_warm hW hN⟩⟩ rfl rfl hl.1 rfl (lv_room (Nat.le_of_ble_eq_true rfl)) dX6_barge_67 ⟨Nat.le_of_ble_eq_true rfl, Nat.le_of_ble_eq_true rfl⟩) (fun r_18 er_20 => ?_)
    subst er_20
    refine lv_if_ne (tgt := 80) hx hb dX6_barge_70 (by decide) (fun c_21 => ?_) (fun c_21 => ?_)
    · replace hf := ob_neg c_21 hf
      refine lv_aload_n hx hb dX6_barge_80 rfl (lv_at hl 1 rfl) ?_
      refine va_get (D := D) (ci := 6) (v := .ref a_chart) (C := RX6) (T := TX6) (N := 13) hx hb hts iw_wsX6_barge_X6 hown hK hP 0 rfl rfl 1 (by decide) (hts (.fieldLink RX6 19 "BargeBasin" "chart" "LBargeBasin$Chart;") (List.mem_of_getElem? (i := 1) (by decide +kernel))) (fun _ h9 => h9) rfl dX6_barge_81 ?_
      refine va_get (D := D) (ci := 0) (v := .int k_chart_barges) (C := RX0) (T := TX0) (N := 13) hx hb hts iw_wsX6_barge_X0 hown hK hP 1 rfl rfl 2 (by decide) (hts (.fieldLink RX6 137 "BargeBasin$Chart" "barges" "I") (List.mem_of_getElem? (i := 2) (by decide +kernel))) (fun _ h9 => h9) rfl dX6_barge_84 ?_
      refine lv_bipush (v := 12) hx hb dX6_barge_87 (by decide) ?_
      refine lv_icmp_lt (tgt := 99) hx hb dX6_barge_89 (by decide) (fun c_22 => ?_) (fun c_22 => ?_)
      · replace hf := ob_pos c_22 hf
        refine lv_aload_n hx hb dX6_barge_99 rfl (lv_at hl 1 rfl) ?_
        refine va_get (D := D) (ci := 6) (v := .ref a_chart) (C := RX6) (T := TX6) (N := 13) hx hb hts iw_wsX6_barge_X6 hown hK hP 0 rfl rfl 1 (by decide) (hts (.fieldLink RX6 19 "BargeBasin" "chart" "LBargeBasin$Chart;") (List.mem_of_getElem? (i := 1) (by decide +kernel))) (fun _ h9 => h9) rfl dX6_barge_100 ?_
        refine lv_iload_n hx hb dX6_barge_103 rfl (lv_at hl 2 rfl) ?_
        refine lv_bipush (v := 8) hx hb dX6_barge_104 (by decide) ?_
        refine lv_iload_n hx hb dX6_barge_106 rfl (lv_at hl 4 rfl) ?_
        refine lv_imul hx hb dX6_barge_107 ?_
        refine lv_iload_n hx hb dX6_barge_108 rfl (lv_at hl 3 rfl) ?_
        refine lv_iadd hx hb dX6_barge_109 ?_
        refine lv_iload hx hb dX6_barge_110 (lv_at hl 5 rfl) ?_
        refine lv_iload hx hb dX6_barge_112 (lv_at hl 0 rfl) ?_
        replace hf := ob_b hf
        obtain ⟨⟨k_chart_barges_23, k_chart_taken_24, k_chart_kind_25, k_chart_place_26, k_chart_length_27, k_chart_gate_28, k_chart_across_29, k_chart_wide_30, k_chart_high_31, k_chart_shape_32⟩, hc_33, hf⟩ := hf
        replace hf := ob_un10 hf
        have hPc := hP.sub (ws' := [(a_chart, .inr (0, [.int k_chart_width, .int k_chart_height, .int k_chart_barges, .long k_chart_walls, .long k_chart_taken, .ref a_chart_kind, .ref a_chart_place, .ref a_chart_length, .ref a_chart_gate, .ref a_chart_across, .ref a_chart_wide, .ref a_chart_high, .ref a_chart_shape])), (a_chart_kind, .inl (cT 0, 12, .inl k_chart_kind)), (a_chart_place, .inl (cT 0, 12, .inl k_chart_place)), (a_chart_length, .inl (cT 0, 12, .inl k_chart_length)), (a_chart_gate, .inl (cT 0, 12, .inl k_chart_gate)), (a_chart_across, .inl (cT 2, 12, .inl k_chart_across)), (a_chart_wide, .inl (cT 0, 12, .inl k_chart_wide)), (a_chart_high, .inl (cT 0, 12, .inl k_chart_high)), (a_chart_shape, .inl (cT 1, 12, .inr (.inl k_chart_shape)))]) [1, 2, 3, 4, 5, 6, 7, 8, 9] rfl
        have hDc := hD.sub (ws' := [(a_chart, .inr (0, [.int k_chart_width, .int k_chart_height, .int k_chart_barges, .long k_chart_walls, .long k_chart_taken, .ref a_chart_kind, .ref a_chart_place, .ref a_chart_length, .ref a_chart_gate, .ref a_chart_across, .ref a_chart_wide, .ref a_chart_high, .ref a_chart_shape])), (a_chart_kind, .inl (cT 0, 12, .inl k_chart_kind)), (a_chart_place, .inl (cT 0, 12, .inl k_chart_place)), (a_chart_length, .inl (cT 0, 12, .inl k_chart_length)), (a_chart_gate, .inl (cT 0, 12, .inl k_chart_gate)), (a_chart_across, .inl (cT 2, 12, .inl k_chart_across)), (a_chart_wide, .inl (cT 0, 12, .inl k_chart_wide)), (a_chart_high, .inl (cT 0, 12, .inl k_chart_high)), (a_chart_shape, .inl (cT 1, 12, .inr (.inl k_chart_shape)))]) [1, 2, 3, 4, 5, 6, 7, 8, 9] (by decide) rfl
        have hFc := va_free (wc := [(a_chart, .inr (0, [.int k_chart_width, .int k_chart_height, .int k_chart_barges, .long k_chart_walls, .long k_chart_taken, .ref a_chart_kind, .ref a_chart_place, .ref a_chart_length, .ref a_chart_gate, .ref a_chart_across, .ref a_chart_wide, .ref a_chart_high, .ref a_chart_shape])), (a_chart_kind, .inl (cT 0, 12, .inl k_chart_kind)), (a_chart_place, .inl (cT 0, 12, .inl k_chart_place)), (a_chart_length, .inl (cT 0, 12, .inl k_chart_length)), (a_chart_gate, .inl (cT 0, 12, .inl k_chart_gate)), (a_chart_across, .inl (cT 2, 12, .inl k_chart_across)), (a_chart_wide, .inl (cT 0, 12, .inl k_chart_wide)), (a_chart_high, .inl (cT 0, 12, .inl k_chart_high)), (a_chart_shape, .inl (cT 1, 12, .inr (.inl k_chart_shape)))]) hD hS hA [1, 2, 3, 4, 5, 6, 7, 8, 9] rfl
        refine va_callv (va_runV (As := [.int v1, .int ((((8 : Int32)) * v3) + v2), .int v4, .int s0]) (rest := []) ⟨hx, hb, hml, hown, hts⟩ (c_f_Chart_add l D cT H.size a_chart a_chart_kind a_chart_place a_chart_length a_chart_gate a_chart_across a_chart_wide a_chart_high a_chart_shape k_chart_width k_chart_height k_chart_barges k_chart_walls k_chart_taken k_chart_kind k_chart_place k_chart_length k_chart_gate k_chart_across k_chart_wide k_chart_high k_chart_shape v1 ((((8 : Int32)) * v3) + v2) v4 s0 _ _ _ _ _ _ _ _ _ _ hc_33) (cwV 4 hts gX6_barge_X0_add rfl rfl rfl (by decide +kernel) ⟨Nat.le_of_ble_eq_true rfl, Nat.le_of_ble_eq_true rfl⟩) ⟨fun a U g mk q => by obtain ⟨q0, q1, qP, qK, qN, qD⟩ := q; exact ⟨q0, q1, qP, va_K.moved (u := U) (U := U.calling g mk a) (Vm.Alike.refl U.vm) qK, jNw_same (u := U) (U := U.calling g mk a) rfl qN, qD⟩, va_recv hK hP (ci := 0) (q0 := 1) rfl rfl, fun U hU hW => ⟨rfl, by rw [hU], by rw [hU]; exact hPc, va_K.moved hW.alike hK, jNw_warm hW hN, hDc.weaken (fun _ _ _ _ => trivial)⟩⟩ rfl rfl hl.1 rfl (lv_room (Nat.le_of_ble_eq_true rfl)) dX6_barge_114 ⟨Nat.le_of_ble_eq_true rfl, Nat.le_of_ble_eq_true rfl⟩) hS (fun q _ h => hFc q h) hFc (fun u t H1 locs ht hvm er_34 hB hz1 hk1 hS => ?_)
        obtain ⟨hP1, hK1, hD1⟩ := hB
        rw [ht] at hP1
        have hPD := va_join (wr := [(a_t, .inr (6, [.ref a_lines, .ref a_chart, .ref a_trial, .ref a_log, .ref a_shelves, .ref a_shown, .int k_shownCount, .int k_status, .int k_whyStep, .int k_whyReason, .int k_whyBarge, z_search, z_plan])), (a_log, .inr (3, [.ref a_log_moves, .int k_log_first, .int k_log_done, .int k_log_undone]))]) (w1 := [(a_chart, .inr (0, [.int k_chart_width, .int k_chart_height, .int k_chart_barges_23, .long k_chart_walls, .long k_chart_taken_24, .ref a_chart_kind, .ref a_chart_place, .ref a_chart_length, .ref a_chart_gate, .ref a_chart_across, .ref a_chart_wide, .ref a_chart_high, .ref a_chart_shape])), (a_chart_kind, .inl (cT 0, 12, .inl k_chart_kind_25)), (a_chart_place, .inl (cT 0, 12, .inl k_chart_place_26)), (a_chart_length, .inl (cT 0, 12, .inl k_chart_length_27)), (a_chart_gate, .inl (cT 0, 12, .inl k_chart_gate_28)), (a_chart_across, .inl (cT 2, 12, .inl k_chart_across_29)), (a_chart_wide, .inl (cT 0, 12, .inl k_chart_wide_30)), (a_chart_high, .inl (cT 0, 12, .inl k_chart_high_31)), (a_chart_shape, .inl (cT 1, 12, .inr (.inl k_chart_shape_32)))]) hP hD [1, 2, 3, 4, 5, 6, 7, 8, 9] [0, 10] rfl rfl (by decide) (by decide) hk1 hFc hP1 hD1
        clear hP hD
        obtain ⟨hP, hD⟩ := hPD
        replace hP := hP.sub (ws' := [(a_t, .inr (6, [.ref a_lines, .ref a_chart, .ref a_trial, .ref a_log, .ref a_shelves, .ref a_shown, .int k_shownCount, .int k_status, .int k_whyStep, .int k_whyReason, .int k_whyBarge, z_search, z_plan])), (a_chart, .inr (0, [.int k_chart_width, .int k_chart_height, .int k_chart_barges_23, .long k_chart_walls, .long k_chart_taken_24, .ref a_chart_kind, .ref a_chart_place, .ref a_chart_length, .ref a_chart_gate, .ref a_chart_across, .ref a_chart_wide, .ref a_chart_high, .ref a_chart_shape])), (a_chart_kind, .inl (cT 0, 12, .inl k_chart_kind_25)), (a_chart_place, .inl (cT 0, 12, .inl k_chart_place_26)), (a_chart_length, .inl (cT 0, 12, .inl k_chart_length_27)), (a_chart_gate, .inl (cT 0, 12, .inl k_chart_gate_28)), (a_chart_across, .inl (cT 2, 12, .inl k_chart_across_29)), (a_chart_wide, .inl (cT 0, 12, .inl k_chart_wide_30)), (a_chart_high, .inl (cT 0, 12, .inl k_chart_high_31)), (a_chart_shape, .inl (cT 1, 12, .inr (.inl k_chart_shape_32))), (a_log, .inr (3, [.ref a_log_moves, .int k_log_first, .int k_log_done, .int k_log_undone]))]) [0, 2, 3, 4, 5, 6, 7, 8, 9, 10, 1] rfl
        replace hD := hD.sub (ws' := [(a_t, .inr (6, [.ref a_lines, .ref a_chart, .ref a_trial, .ref a_log, .ref a_shelves, .ref a_shown, .int k_shownCount, .int k_status, .int k_whyStep, .int k_whyReason, .int k_whyBarge, z_search, z_plan])), (a_chart, .inr (0, [.int k_chart_width, .int k_chart_height, .int k_chart_barges_23, .long k_chart_walls, .long k_chart_taken_24, .ref a_chart_kind, .ref a_chart_place, .ref a_chart_length, .ref a_chart_gate, .ref a_chart_across, .ref a_chart_wide, .ref a_chart_high, .ref a_chart_shape])), (a_chart_kind, .inl (cT 0, 12, .inl k_chart_kind_25)), (a_chart_place, .inl (cT 0, 12, .inl k_chart_place_26)), (a_chart_length, .inl (cT 0, 12, .inl k_chart_length_27)), (a_chart_gate, .inl (cT 0, 12, .inl k_chart_gate_28)), (a_chart_across, .inl (cT 2, 12, .inl k_chart_across_29)), (a_chart_wide, .inl (cT 0, 12, .inl k_chart_wide_30)), (a_chart_high, .inl (cT 0, 12, .inl k_chart_high_31)), (a_chart_shape, .inl (cT 1, 12, .inr (.inl k_chart_shape_32))), (a_log, .inr (3, [.ref a_log_moves, .int k_log_first, .int k_log_done, .int k_log_undone]))]) [0, 2, 3, 4, 5, 6, 7, 8, 9, 10, 1] (by decide) rfl
        clear hPc hDc hFc hP1 hK1 hD1 hk1 hz1
        generalize H1 = H at hP hS ⊢
        refine lv_aload_n hx hb dX6_barge_117 rfl (lv_at hl 1 rfl) ?_
        refine va_get (D := D) (ci := 6) (v := .ref a_log) (C := RX6) (T := TX6) (N := 13) hx hb hts iw_wsX6_barge_X6 hown hK hP 0 rfl rfl 3 (by decide) (hts (.fieldLink RX6 29 "BargeBasin" "log" "LBargeBasin$Log;") (List.mem_of_getElem? (i := 3) (by decide +kernel))) (fun _ h9 => h9) rfl dX6_barge_118 ?_
        replace hf := ob_b hf
        obtain ⟨⟨k_log_done_35, k_log_undone_36⟩, hc_37, hf⟩ := hf
        replace hf := ob_un2 hf
        have hPc := hP.sub (ws' := [(a_log, .inr (3, [.ref a_log_moves, .int k_log_first, .int k_log_done, .int k_log_undone]))]) [10] rfl
        have hDc := hD.sub (ws' := [(a_log, .inr (3, [.ref a_log_moves, .int k_log_first, .int k_log_done, .int k_log_undone]))]) [10] (by decide) rfl
        have hFc := va_free (wc := [(a_log, .inr (3, [.ref a_log_moves, .int k_log_first, .int k_log_done, .int k_log_undone]))]) hD hS hA [10] rfl
        refine va_callv (va_runV (As := []) (rest := []) ⟨hx, hb, hml, hown, hts⟩ (c_f_Log_forget l D cT H.size a_log a_log_moves k_log_first k_log_done k_log_undone _ _ hc_37) (cwV 0 hts gX6_barge_X3_forget rfl rfl rfl (by decide +kernel) ⟨Nat.le_of_ble_eq_true rfl, Nat.le_of_ble_eq_true rfl⟩) ⟨fun a U g mk q => by obtain ⟨q0, q1, qP, qK, qN, qD⟩ := q; exact ⟨q0, q1, qP, va_K.moved (u := U) (U := U.calling g mk a) (Vm.Alike.refl U.vm) qK, jNw_same (u := U) (U := U.calling g mk a) rfl qN, qD⟩, va_recv hK hP (ci := 3) (q0 := 10) rfl rfl, fun U hU hW => ⟨rfl, by rw [hU], by rw [hU]; exact hPc, va_K.moved hW.alike hK, jNw_warm hW hN, hDc.weaken (fun _ _ _ _ => trivial)⟩⟩ rfl rfl hl.1 rfl (lv_room (Nat.le_of_ble_eq_true rfl)) dX6_barge_121 ⟨Nat.le_of_ble_eq_true rfl, Nat.le_of_ble_eq_true rfl⟩) hS (fun q _ h => hFc q h) hFc (fun u t H1 locs ht hvm er_38 hB hz1 hk1 hS => ?_)
        obtain ⟨hP1, hK1, hD1⟩ := hB
        rw [ht] at hP1
        have hPD := va_join (wr := [(a_t, .inr (6, [.ref a_lines, .ref a_chart, .ref a_trial, .ref a_log, .ref a_shelves, .ref a_shown, .int k_shownCount, .int k_status, .int k_whyStep, .int k_whyReason, .int k_whyBarge, z_search, z_plan])), (a_chart, .inr (0, [.int k_chart_width, .int k_chart_height, .int k_chart_barges_23, .long k_chart_walls, .long k_chart_taken_24, .ref a_chart_kind, .ref a_chart_place, .ref a_chart_length, .ref a_chart_gate, .ref a_chart_across, .ref a_chart_wide, .ref a_chart_high, .ref a_chart_shape])), (a_chart_kind, .inl (cT 0, 12, .inl k_chart_kind_25)), (a_chart_place, .inl (cT 0, 12, .inl k_chart_place_26)), (a_chart_length, .inl (cT 0, 12, .inl k_chart_length_27)), (a_chart_gate, .inl (cT 0, 12, .inl k_chart_gate_28)), (a_chart_across, .inl (cT 2, 12, .inl k_chart_across_29)), (a_chart_wide, .inl (cT 0, 12, .inl k_chart_wide_30)), (a_chart_high, .inl (cT 0, 12, .inl k_chart_high_31)), (a_chart_shape, .inl (cT 1, 12, .inr (.inl k_chart_shape_32)))]) (w1 := [(a_log, .inr (3, [.ref a_log_moves, .int k_log_first, .int k_log_done_35, .int k_log_undone_36]))]) hP hD [10] [0, 1, 2, 3, 4, 5, 6, 7, 8, 9] rfl rfl (by decide) (by decide) hk1 hFc hP1 hD1
        clear hP hD
        obtain ⟨hP, hD⟩ := hPD
        replace hP := hP.sub (ws' := [(a_t, .inr (6, [.ref a_lines, .ref a_chart, .ref a_trial, .ref a_log, .ref a_shelves, .ref a_shown, .int k_shownCount, .int k_status, .int k_whyStep, .int k_whyReason, .int k_whyBarge, z_search, z_plan])), (a_chart, .inr (0, [.int k_chart_width, .int k_chart_height, .int k_chart_barges_23, .long k_chart_walls, .long k_chart_taken_24, .ref a_chart_kind, .ref a_chart_place, .ref a_chart_length, .ref a_chart_gate, .ref a_chart_across, .ref a_chart_wide, .ref a_chart_high, .ref a_chart_shape])), (a_chart_kind, .inl (cT 0, 12, .inl k_chart_kind_25)), (a_chart_place, .inl (cT 0, 12, .inl k_chart_place_26)), (a_chart_length, .inl (cT 0, 12, .inl k_chart_length_27)), (a_chart_gate, .inl (cT 0, 12, .inl k_chart_gate_28)), (a_chart_across, .inl (cT 2, 12, .inl k_chart_across_29)), (a_chart_wide, .inl (cT 0, 12, .inl k_chart_wide_30)), (a_chart_high, .inl (cT 0, 12, .inl k_chart_high_31)), (a_chart_shape, .inl (cT 1, 12, .inr (.inl k_chart_shape_32))), (a_log, .inr (3, [.ref a_log_moves, .int k_log_first, .int k_log_done_35, .int k_log_undone_36]))]) [0, 1, 2, 3, 4, 5, 6, 7, 8, 9, 10] rfl
        replace hD := hD.sub (ws' := [(a_t, .inr (6, [.ref a_lines, .ref a_chart, .ref a_trial, .ref a_log, .ref a_shelves, .ref a_shown, .int k_shownCount, .int k_status, .int k_whyStep, .int k_whyReason, .int k_whyBarge, z_search, z_plan])), (a_chart, .inr (0, [.int k_chart_width, .int k_chart_height, .int k_chart_barges_23, .long k_chart_walls, .long k_chart_taken_24, .ref a_chart_kind, .ref a_chart_place, .ref a_chart_length, .ref a_chart_gate, .ref a_chart_across, .ref a_chart_wide, .ref a_chart_high, .ref a_chart_shape])), (a_chart_kind, .inl (cT 0, 12, .inl k_chart_kind_25)), (a_chart_place, .inl (cT 0, 12, .inl k_chart_place_26)), (a_chart_length, .inl (cT 0, 12, .inl k_chart_length_27)), (a_chart_gate, .inl (cT 0, 12, .inl k_chart_gate_28)), (a_chart_across, .inl (cT 2, 12, .inl k_chart_across_29)), (a_chart_wide, .inl (cT 0, 12, .inl k_chart_wide_30)), (a_chart_high, .inl (cT 0, 12, .inl k_chart_high_31)), (a_chart_shape, .inl (cT 1, 12, .inr (.inl k_chart_shape_32))), (a_log, .inr (3, [.ref a_log_moves, .int k_log_first, .int k_log_done_35, .int k_log_undone_36]))]) [0, 1, 2, 3, 4, 5, 6, 7, 8, 9, 10] (by decide) rfl
        clear hPc hDc hFc hP1 hK1 hD1 hk1 hz1
        generalize H1 = H at hP hS ⊢
        refine lv_aload_n hx hb dX6_barge_124 rfl (lv_at hl 1 rfl) ?_
        refine lv_aload_n hx hb dX6_barge_125 rfl (lv_at hl 1 rfl) ?_
        refine va_get (D := D) (ci := 6) (v := .ref a_chart) (C := RX6) (T := TX6) (N := 13) hx hb hts iw_wsX6_barge_X6 hown hK hP 0 rfl rfl 1 (by decide) (hts (.fieldLink RX6 19 "BargeBasin" "chart" "LBargeBasin$Chart;") (List.mem_of_getElem? (i := 1) (by decide +kernel))) (fun _ h9 => h9) rfl dX6_barge_126 ?_
        refine va_get (D := D) (ci := 0) (v := .int k_chart_barges_23) (C := RX0) (T := TX0) (N := 13) hx hb hts iw_wsX6_barge_X0 hown hK hP 1 rfl rfl 2 (by decide) (hts (.fieldLink RX6 137 "BargeBasin$Chart" "barges" "I") (List.mem_of_getElem? (i := 2) (by decide +kernel))) (fun _ h9 => h9) rfl dX6_barge_129 ?_
        refine lv_iconst (v := 1) hx hb dX6_barge_132 (by decide) ?_
        refine lv_isub hx hb dX6_barge_133 ?_
        replace hf := ob_b hf
        obtain ⟨⟨zr_39, k_status_40⟩, hc_41, hf⟩ := hf
        replace hf := ob_un2 hf
        have hPc := hP.sub (ws' := [(a_t, .inr (6, [.ref a_lines, .ref a_chart, .ref a_trial, .ref a_log, .ref a_shelves, .ref a_shown, .int k_shownCount, .int k_status, .int k_whyStep, .int k_whyReason, .int k_whyBarge, z_search, z_plan]))]) [0] rfl
        have hDc := hD.sub (ws' := [(a_t, .inr (6, [.ref a_lines, .ref a_chart, .ref a_trial, .ref a_log, .ref a_shelves, .ref a_shown, .int k_shownCount, .int k_status, .int k_whyStep, .int k_whyReason, .int k_whyBarge, z_search, z_plan]))]) [0] (by decide) rfl
        have hFc := va_free (wc := [(a_t, .inr (6, [.ref a_lines, .ref a_chart, .ref a_trial, .ref a_log, .ref a_shelves, .ref a_shown, .int k_shownCount, .int k_status, .int k_whyStep, .int k_whyReason, .int k_whyBarge, z_search, z_plan]))]) hD hS hA [0] rfl
        refine va_calli (va_runV (As := [.int (k_chart_barges_23 - ((1 : Int32)))]) (rest := []) ⟨hx, hb, hml, hown, hts⟩ (c_f_BargeBasin_answer l D cT H.size a_t a_lines a_chart a_trial a_log a_shelves a_shown z_search z_plan k_shownCount k_status k_whyStep k_whyReason k_whyBarge (k_chart_barges_23 - ((1 : Int32))) _ _ hc_41) (cwV 1 hts gX6_barge_X6_answer rfl rfl rfl (by decide +kernel) ⟨Nat.le_of_ble_eq_true rfl, Nat.le_of_ble_eq_true rfl⟩) ⟨fun a U g mk q => by obtain ⟨q0, q1, qP, qK, qN, qD⟩ := q; exact ⟨q0, q1, qP, va_K.moved (u := U) (U := U.calling g mk a) (Vm.Alike.refl U.vm) qK, jNw_same (u := U) (U := U.calling g mk a) rfl qN, qD⟩, va_recv hK hP (ci := 6) (q0 := 0) rfl rfl, fun U hU hW => ⟨rfl, by rw [hU], by rw [hU]; exact hPc, va_K.moved hW.alike hK, jNw_warm hW hN, hDc.weaken (fun _ _ _ _ => trivial)⟩⟩ rfl rfl hl.1 rfl (lv_room (Nat.le_of_ble_eq_true rfl)) dX6_barge_134 ⟨Nat.le_of_ble_eq_true rfl, Nat.le_of_ble_eq_true rfl⟩) hS (fun q _ h => hFc q h) hFc (fun r_39 u t H1 locs ht hvm er_42 hB hz1 hk1 hS => ?_)
        subst er_42
        obtain ⟨hP1, hK1, hD1⟩ := hB
        rw [ht] at hP1
        have hPD := va_join (wr := [(a_chart, .inr (0, [.int k_chart_width, .int k_chart_height, .int k_chart_barges_23, .long k_chart_walls, .long k_chart_taken_24, .ref a_chart_kind, .ref a_chart_place, .ref a_chart_length, .ref a_chart_gate, .ref a_chart_across, .ref a_chart_wide, .ref a_chart_high, .ref a_chart_shape])), (a_chart_kind, .inl (cT 0, 12, .inl k_chart_kind_25)), (a_chart_place, .inl (cT 0, 12, .inl k_chart_place_26)), (a_chart_length, .inl (cT 0, 12, .inl k_chart_length_27)), (a_chart_gate, .inl (cT 0, 12, .inl k_chart_gate_28)), (a_chart_across, .inl (cT 2, 12, .inl k_chart_across_29)), (a_chart_wide, .inl (cT 0, 12, .inl k_chart_wide_30)), (a_chart_high, .inl (cT 0, 12, .inl k_chart_high_31)), (a_chart_shape, .inl (cT 1, 12, .inr (.inl k_chart_shape_32))), (a_log, .inr (3, [.ref a_log_moves, .int k_log_first, .int k_log_done_35, .int k_log_undone_36]))]) (w1 := [(a_t, .inr (6, [.ref a_lines, .ref a_chart, .ref a_trial, .ref a_log, .ref a_shelves, .ref a_shown, .int k_shownCount, .int k_status_40, .int k_whyStep, .int k_whyReason, .int k_whyBarge, z_search, z_plan]))]) hP hD [0] [1, 2, 3, 4, 5, 6, 7, 8, 9, 10] rfl rfl (by decide) (by decide) hk1 hFc hP1 hD1
        clear hP hD
        obtain ⟨hP, hD⟩ := hPD
        replace hP := hP.sub (ws' := [(a_t, .inr (6, [.ref a_lines, .ref a_chart, .ref a_trial, .ref a_log, .ref a_shelves, .ref a_shown, .int k_shownCount, .int k_status_40, .int k_whyStep, .int k_whyReason, .int k_whyBarge, z_search, z_plan])), (a_chart, .inr (0, [.int k_chart_width, .int k_chart_height, .int k_chart_barges_23, .long k_chart_walls, .long k_chart_taken_24, .ref a_chart_kind, .ref a_chart_place, .ref a_chart_length, .ref a_chart_gate, .ref a_chart_across, .ref a_chart_wide, .ref a_chart_high, .ref a_chart_shape])), (a_chart_kind, .inl (cT 0, 12, .inl k_chart_kind_25)), (a_chart_place, .inl (cT 0, 12, .inl k_chart_place_26)), (a_chart_length, .inl (cT 0, 12, .inl k_chart_length_27)), (a_chart_gate, .inl (cT 0, 12, .inl k_chart_gate_28)), (a_chart_across, .inl (cT 2, 12, .inl k_chart_across_29)), (a_chart_wide, .inl (cT 0, 12, .inl k_chart_wide_30)), (a_chart_high, .inl (cT 0, 12, .inl k_chart_high_31)), (a_chart_shape, .inl (cT 1, 12, .inr (.inl k_chart_shape_32))), (a_log, .inr (3, [.ref a_log_moves, .int k_log_first, .int k_log_done_35, .int k_log_undone_36]))]) [10, 0, 1, 2, 3, 4, 5, 6, 7, 8, 9] rfl
        replace hD := hD.sub (ws' := [(a_t, .inr (6, [.ref a_lines, .ref a_chart, .ref a_trial, .ref a_log, .ref a_shelves, .ref a_shown, .int k_shownCount, .int k_status_40, .int k_whyStep, .int k_whyReason, .int k_whyBarge, z_search, z_plan])), (a_chart, .inr (0, [.int k_chart_width, .int k_chart_height, .int k_chart_barges_23, .long k_chart_walls, .long k_chart_taken_24, .ref a_chart_kind, .ref a_chart_place, .ref a_chart_length, .ref a_chart_gate, .ref a_chart_across, .ref a_chart_wide, .ref a_chart_high, .ref a_chart_shape])), (a_chart_kind, .inl (cT 0, 12, .inl k_chart_kind_25)), (a_chart_place, .inl (cT 0, 12, .inl k_chart_place_26)), (a_chart_length, .inl (cT 0, 12, .inl k_chart_length_27)), (a_chart_gate, .inl (cT 0, 12, .inl k_chart_gate_28)), (a_chart_across, .inl (cT 2, 12, .inl k_chart_across_29)), (a_chart_wide, .inl (cT 0, 12, .inl k_chart_wide_30)), (a_chart_high, .inl (cT 0, 12, .inl k_chart_high_31)), (a_chart_shape, .inl (cT 1, 12, .inr (.inl k_chart_shape_32))), (a_log, .inr (3, [.ref a_log_moves, .int k_log_first, .int k_log_done_35, .int k_log_undone_36]))]) [10, 0, 1, 2, 3, 4, 5, 6, 7, 8, 9] (by decide) rfl
        clear hPc hDc hFc hP1 hK1 hD1 hk1 hz1
        generalize H1 = H at hP hS ⊢
        replace hf := ob_t14 hf
        obtain ⟨ee0, ee1, ee2, ee3, ee4, ee5, ee6, ee7, ee8, ee9, ee10, ee11, ee12, ee13⟩ := hf
        subst ee0
        subst ee1
        subst ee2
        subst ee3
        subst ee4
        subst ee5
        subst ee6
        subst ee7
        subst ee8
        subst ee9
        subst ee10
        subst ee11
        subst ee12
        subst ee13
        subst hQ
        exact W.iret hx hb hr (fun t ht hW => ⟨⟨_, (), rfl, rfl, by rw [ht]; exact hP, va_K.moved hW.alike hK, hD⟩, hS.F ht⟩) hS.2.2 dX6_barge_137
      · replace hf := ob_neg c_22 hf
        refine lv_aload_n hx hb dX6_barge_92 rfl (lv_at hl 1 rfl) ?_
        refine lv_bipush (v := 8) hx hb dX6_barge_93 (by decide) ?_
        replace hf := ob_b hf
        obtain ⟨⟨zr_43, k_status_44⟩, hc_45, hf⟩ := hf
        replace hf := ob_un2 hf
        have hPc := hP.sub (ws' := [(a_t, .inr (6, [.ref a_lines, .ref a_chart, .ref a_trial, .ref a_log, .ref a_shelves, .ref a_shown, .int k_shownCount, .int k_status, .int k_whyStep, .int k_whyReason, .int k_whyBarge, z_search, z_plan]))]) [0] rfl
        have hDc := hD.sub (ws' := [(a_t, .inr (6, [.ref a_lines, .ref a_chart, .ref a_trial, .ref a_log, .ref a_shelves, .ref a_shown, .int k_shownCount, .int k_status, .int k_whyStep, .int k_whyReason, .int k_whyBarge, z_search, z_plan]))]) [0] (by decide) rfl
        have hFc := va_free (wc := [(a_t, .inr (6, [.ref a_lines, .ref a_chart, .ref a_trial, .ref a_log, .ref a_shelves, .ref a_shown, .int k_shownCount, .int k_status, .int k_whyStep, .int k_whyReason, .int k_whyBarge, z_search, z_plan]))]) hD hS hA [0] rfl
        refine va_calli (va_runV (As := [.int ((8 : Int32))]) (rest := []) ⟨hx, hb, hml, hown, hts⟩ (c_f_BargeBasin_refuse l D cT H.size a_t a_lines a_chart a_trial a_log a_shelves a_shown z_search z_plan k_shownCount k_status k_whyStep k_whyReason k_whyBarge ((8 : Int32)) _ _ hc_45) (cwV 1 hts gX6_barge_X6_refuse rfl rfl rfl (by decide +kernel) ⟨Nat.le_of_ble_eq_true rfl, Nat.le_of_ble_eq_true rfl⟩) ⟨fun a U g mk q => by obtain ⟨q0, q1, qP, qK, qN, qD⟩ := q; exact ⟨q0, q1, qP, va_K.moved (u := U) (U := U.calling g mk a) (Vm.Alike.refl U.vm) qK, jNw_same (u := U) (U := U.calling g mk a) rfl qN, qD⟩, va_recv hK hP (ci := 6) (q0 := 0) rfl rfl, fun U hU hW => ⟨rfl, by rw [hU], by rw [hU]; exact hPc, va_K.moved hW.alike hK, jNw_warm hW hN, hDc.weaken (fun _ _ _ _ => trivial)⟩⟩ rfl rfl hl.1 rfl (lv_room (Nat.le_of_ble_eq_true rfl)) dX6_barge_95 ⟨Nat.le_of_ble_eq_true rfl, Nat.le_of_ble_eq_true rfl⟩) hS (fun q _ h => hFc q h) hFc (fun r_43 u t H1 locs ht hvm er_46 hB hz1 hk1 hS => ?_)
        subst er_46
        obtain ⟨hP1, hK1, hD1⟩ := hB
        rw [ht] at hP1
        have hPD := va_join (wr := [(a_chart, .inr (0, [.int k_chart_width, .int k_chart_height, .int k_chart_barges, .long k_chart_walls, .long k_chart_taken, .ref a_chart_kind, .ref a_chart_place, .ref a_chart_length, .ref a_chart_gate, .ref a_chart_across, .ref a_chart_wide, .ref a_chart_high, .ref a_chart_shape])), (a_chart_kind, .inl (cT 0, 12, .inl k_chart_kind)), (a_chart_place, .inl (cT 0, 12, .inl k_chart_place)), (a_chart_length, .inl (cT 0, 12, .inl k_chart_length)), (a_chart_gate, .inl (cT 0, 12, .inl k_chart_gate)), (a_chart_across, .inl (cT 2, 12, .inl k_chart_across)), (a_chart_wide, .inl (cT 0, 12, .inl k_chart_wide)), (a_chart_high, .inl (cT 0, 12, .inl k_chart_high)), (a_chart_shape, .inl (cT 1, 12, .inr (.inl k_chart_shape))), (a_log, .inr (3, [.ref a_log_moves, .int k_log_first, .int k_log_done, .int k_log_undone]))]) (w1 := [(a_t, .inr (6, [.ref a_lines, .ref a_chart, .ref a_trial, .ref a_log, .ref a_shelves, .ref a_shown, .int k_shownCount, .int k_status_44, .int k_whyStep, .int k_whyReason, .int k_whyBarge, z_search, z_plan]))]) hP hD [0] [1, 2, 3, 4, 5, 6, 7, 8, 9, 10] rfl rfl (by decide) (by decide) hk1 hFc hP1 hD1
        clear hP hD
        obtain ⟨hP, hD⟩ := hPD
        replace hP := hP.sub (ws' := [(a_t, .inr (6, [.ref a_lines, .ref a_chart, .ref a_trial, .ref a_log, .ref a_shelves, .ref a_shown, .int k_shownCount, .int k_status_44, .int k_whyStep, .int k_whyReason, .int k_whyBarge, z_search, z_plan])), (a_chart, .inr (0, [.int k_chart_width, .int k_chart_height, .int k_chart_barges, .long k_chart_walls, .long k_chart_taken, .ref a_chart_kind, .ref a_chart_place, .ref a_chart_length, .ref a_chart_gate, .ref a_chart_across, .ref a_chart_wide, .ref a_chart_high, .ref a_chart_shape])), (a_chart_kind, .inl (cT 0, 12, .inl k_chart_kind)), (a_chart_place, .inl (cT 0, 12, .inl k_chart_place)), (a_chart_length, .inl (cT 0, 12, .inl k_chart_length)), (a_chart_gate, .inl (cT 0, 12, .inl k_chart_gate)), (a_chart_across, .inl (cT 2, 12, .inl k_chart_across)), (a_chart_wide, .inl (cT 0, 12, .inl k_chart_wide)), (a_chart_high, .inl (cT 0, 12, .inl k_chart_high)), (a_chart_shape, .inl (cT 1, 12, .inr (.inl k_chart_shape))), (a_log, .inr (3, [.ref a_log_moves, .int k_log_first, .int k_log_done, .int k_log_undone]))]) [10, 0, 1, 2, 3, 4, 5, 6, 7, 8, 9] rfl
        replace hD := hD.sub (ws' := [(a_t, .inr (6, [.ref a_lines, .ref a_chart, .ref a_trial, .ref a_log, .ref a_shelves, .ref a_shown, .int k_shownCount, .int k_status_44, .int k_whyStep, .int k_whyReason, .int k_whyBarge, z_search, z_plan])), (a_chart, .inr (0, [.int k_chart_width, .int k_chart_height, .int k_chart_barges, .long k_chart_walls, .long k_chart_taken, .ref a_chart_kind, .ref a_chart_place, .ref a_chart_length, .ref a_chart_gate, .ref a_chart_across, .ref a_chart_wide, .ref a_chart_high, .ref a_chart_shape])), (a_chart_kind, .inl (cT 0, 12, .inl k_chart_kind)), (a_chart_place, .inl (cT 0, 12, .inl k_chart_place)), (a_chart_length, .inl (cT 0, 12, .inl k_chart_length)), (a_chart_gate, .inl (cT 0, 12, .inl k_chart_gate)), (a_chart_across, .inl (cT 2, 12, .inl k_chart_across)), (a_chart_wide, .inl (cT 0, 12, .inl k_chart_wide)), (a_chart_high, .inl (cT 0, 12, .inl k_chart_high)), (a_chart_shape, .inl (cT 1, 12, .inr (.inl k_chart_shape))), (a_log, .inr (3, [.ref a_log_moves, .int k_log_first, .int k_log_done, .int k_log_undone]))]) [10, 0, 1, 2, 3, 4, 5, 6, 7, 8, 9] (by decide) rfl
        clear hPc hDc hFc hP1 hK1 hD1 hk1 hz1
        generalize H1 = H at hP hS ⊢
        replace hf := ob_t14 hf
        obtain ⟨ee0, ee1, ee2, ee3, ee4, ee5, ee6, ee7, ee8, ee9, ee10, ee11, ee12, ee13⟩ := hf
        subst ee0
        subst ee1
        subst ee2
        subst ee3
        subst ee4
        subst ee5
        subst ee6
        subst ee7
        subst ee8
        subst ee9
        subst ee10
        subst ee11
        subst ee12
        subst ee13
        subst hQ
        exact W.iret hx hb hr (fun t ht hW => ⟨⟨_, (), rfl, rfl, by rw [ht]; exact hP, va_K.moved hW.alike hK, hD⟩, hS.F ht⟩) hS.2.2 dX6_barge_98
    · replace hf := ob_pos c_21 hf
      refine lv_aload_n hx hb dX6_barge_73 rfl (lv_at hl 1 rfl) ?_
      refine lv_bipush (v := 7) hx hb dX6_barge_74 (by decide) ?_
      replace hf := ob_b hf
      obtain ⟨⟨zr_47, k_status_48⟩, hc_49, hf⟩ := hf
      replace hf := ob_un2 hf
      have hPc := hP.sub (ws' := [(a_t, .inr (6, [.ref a_lines, .ref a_chart, .ref a_trial, .ref a_log, .ref a_shelves, .ref a_shown, .int k_shownCount, .int k_status, .int k_whyStep, .int k_whyReason, .int k_whyBarge, z_search, z_plan]))]) [0] rfl
      have hDc := hD.sub (ws' := [(a_t, .inr (6, [.ref a_lines, .ref a_chart, .ref a_trial, .ref a_log, .ref a_shelves, .ref a_shown, .int k_shownCount, .int k_status, .int k_whyStep, .int k_whyReason, .int k_whyBarge, z_search, z_plan]))]) [0] (by decide) rfl
      have hFc := va_free (wc := [(a_t, .inr (6, [.ref a_lines, .ref a_chart, .ref a_trial, .ref a_log, .ref a_shelves, .ref a_shown, .int k_shownCount, .int k_status, .int k_whyStep, .int k_whyReason, .int k_whyBarge, z_search, z_plan]))]) hD hS hA [0] rfl
      refine va_calli (va_runV (As := [.int ((7 : Int32))]) (rest := []) ⟨hx, hb, hml, hown, hts⟩ (c_f_BargeBasin_refuse l D cT H.size a_t a_lines a_chart a_trial a_log a_shelves a_shown z_search z_plan k_shownCount k_status k_whyStep k_whyReason k_whyBarge ((7 : Int32)) _ _ hc_49) (cwV 1 hts gX6_barge_X6_refuse rfl rfl rfl (by decide +kernel) ⟨Nat.le_of_ble_eq_true rfl, Nat.le_of_ble_eq_true rfl⟩) ⟨fun a U g mk q => by obtain ⟨q0, q1, qP, qK, qN, qD⟩ := q; exact ⟨q0, q1, qP, va_K.moved (u := U) (U := U.calling g mk a) (Vm.Alike.refl U.vm) qK, jNw_same (u := U) (U := U.calling g mk a) rfl qN, qD⟩, va_recv hK hP (ci := 6) (q0 := 0) rfl rfl, fun U hU hW => ⟨rfl, by rw [hU], by rw [hU]; exact hPc, va_K.moved hW.alike hK, jNw_warm hW hN, hDc.weaken (fun _ _ _ _ => trivial)⟩⟩ rfl rfl hl.1 rfl (lv_room (Nat.le_of_ble_eq_true rfl)) dX6_barge_76 ⟨Nat.le_of_ble_eq_true rfl, Nat.le_of_ble_eq_true rfl⟩) hS (fun q _ h => hFc q h) hFc (fun r_47 u t H1 locs ht hvm er_50 hB hz1 hk1 hS => ?_)
      subst er_50
      obtain ⟨hP1, hK1, hD1⟩ := hB
      rw [ht] at hP1
      have hPD := va_join (wr := [(a_chart, .inr (0, [.int k_chart_width, .int k_chart_height, .int k_chart_barges, .long k_chart_walls, .long k_chart_taken, .ref a_chart_kind, .ref a_chart_place, .ref a_chart_length, .ref a_chart_gate, .ref a_chart_across, .ref a_chart_wide, .ref a_chart_high, .ref a_chart_shape])), (a_chart_kind, .inl (cT 0, 12, .inl k_chart_kind)), (a_chart_place, .inl (cT 0, 12, .inl k_chart_place)), (a_chart_length, .inl (cT 0, 12, .inl k_chart_length)), (a_chart_gate, .inl (cT 0, 12, .inl k_chart_gate)), (a_chart_across, .inl (cT 2, 12, .inl k_chart_across)), (a_chart_wide, .inl (cT 0, 12, .inl k_chart_wide)), (a_chart_high, .inl (cT 0, 12, .inl k_chart_high)), (a_chart_shape, .inl (cT 1, 12, .inr (.inl k_chart_shape))), (a_log, .inr (3, [.ref a_log_moves, .int k_log_first, .int k_log_done, .int k_log_undone]))]) (w1 := [(a_t, .inr (6, [.ref a_lines, .ref a_chart, .ref a_trial, .ref a_log, .ref a_shelves, .ref a_shown, .int k_shownCount, .int k_status_48, .int k_whyStep, .int k_whyReason, .int k_whyBarge, z_search, z_plan]))]) hP hD [0] [1, 2, 3, 4, 5, 6, 7, 8, 9, 10] rfl rfl (by decide) (by decide) hk1 hFc hP1 hD1
      clear hP hD
      obtain ⟨hP, hD⟩ := hPD
      replace hP := hP.sub (ws' := [(a_t, .inr (6, [.ref a_lines, .ref a_chart, .ref a_trial, .ref a_log, .ref a_shelves, .ref a_shown, .int k_shownCount, .int k_status_48, .int k_whyStep, .int k_whyReason, .int k_whyBarge, z_search, z_plan])), (a_chart, .inr (0, [.int k_chart_width, .int k_chart_height, .int k_chart_barges, .long k_chart_walls, .long k_chart_taken, .ref a_chart_kind, .ref a_chart_place, .ref a_chart_length, .ref a_chart_gate, .ref a_chart_across, .ref a_chart_wide, .ref a_chart_high, .ref a_chart_shape])), (a_chart_kind, .inl (cT 0, 12, .inl k_chart_kind)), (a_chart_place, .inl (cT 0, 12, .inl k_chart_place)), (a_chart_length, .inl (cT 0, 12, .inl k_chart_length)), (a_chart_gate, .inl (cT 0, 12, .inl k_chart_gate)), (a_chart_across, .inl (cT 2, 12, .inl k_chart_across)), (a_chart_wide, .inl (cT 0, 12, .inl k_chart_wide)), (a_chart_high, .inl (cT 0, 12, .inl k_chart_high)), (a_chart_shape, .inl (cT 1, 12, .inr (.inl k_chart_shape))), (a_log, .inr (3, [.ref a_log_moves, .int k_log_first, .int k_log_done, .int k_log_undone]))]) [10, 0, 1, 2, 3, 4, 5, 6, 7, 8, 9] rfl
      replace hD := hD.sub (ws' := [(a_t, .inr (6, [.ref a_lines, .ref a_chart, .ref a_trial, .ref a_log, .ref a_shelves, .ref a_shown, .int k_shownCount, .int k_status_48, .int k_whyStep, .int k_whyReason, .int k_whyBarge, z_search, z_plan])), (a_chart, .inr (0, [.int k_chart_width, .int k_chart_height, .int k_chart_barges, .long k_chart_walls, .long k_chart_taken, .ref a_chart_kind, .ref a_chart_place, .ref a_chart_length, .ref a_chart_gate, .ref a_chart_across, .ref a_chart_wide, .ref a_chart_high, .ref a_chart_shape])), (a_chart_kind, .inl (cT 0, 12, .inl k_chart_kind)), (a_chart_place, .inl (cT 0, 12, .inl k_chart_place)), (a_chart_length, .inl (cT 0, 12, .inl k_chart_length)), (a_chart_gate, .inl (cT 0, 12, .inl k_chart_gate)), (a_chart_across, .inl (cT 2, 12, .inl k_chart_across)), (a_chart_wide, .inl (cT 0, 12, .inl k_chart_wide)), (a_chart_high, .inl (cT 0, 12, .inl k_chart_high)), (a_chart_shape, .inl (cT 1, 12, .inr (.inl k_chart_shape))), (a_log, .inr (3, [.ref a_log_moves, .int k_log_first, .int k_log_done, .int k_log_undone]))]) [10, 0, 1, 2, 3, 4, 5, 6, 7, 8, 9] (by decide) rfl
      clear hPc hDc hFc hP1 hK1 hD1 hk1 hz1
      generalize H1 = H at hP hS ⊢
      replace hf := ob_t14 hf
      obtain ⟨ee0, ee1, ee2, ee3, ee4, ee5, ee6, ee7, ee8, ee9, ee10, ee11, ee12, ee13⟩ := hf
      subst ee0
      subst ee1
      subst ee2
      subst ee3
      subst ee4
      subst ee5
      subst ee6
      subst ee7
      subst ee8
      subst ee9
      subst ee10
      subst ee11
      subst ee12
      subst ee13
      subst hQ
      exact W.iret hx hb hr (fun t ht hW => ⟨⟨_, (), rfl, rfl, by rw [ht]; exact hP, va_K.moved hW.alike hK, hD⟩, hS.F ht⟩) hS.2.2 dX6_barge_79
  have J53 : ∀ (k_status : Int32) (k_chart_barges : Int32) (k_chart_taken : Int64) (k_chart_kind : Nat → Int32) (k_chart_place : Nat → Int32) (k_chart_length : Nat → Int32) (k_chart_gate : Nat → Int32) (k_chart_across : Nat → Int32) (k_chart_wide : Nat → Int32) (k_chart_high : Nat → Int32) (k_chart_shape : Nat → Int64) (k_log_done : Int32) (k_log_undone : Int32), f_BargeBasin_barge_J53 v1 v2 v3 v4 k_status k_chart_width k_chart_height k_chart_barges k_chart_walls k_chart_taken k_chart_kind k_chart_place k_chart_length k_chart_gate k_chart_across k_chart_wide k_chart_high k_chart_shape k_log_done k_log_undone = some (r0, k_status₉, k_chart_barges₉, k_chart_taken₉, k_chart_kind₉, k_chart_place₉, k_chart_length₉, k_chart_gate₉, k_chart_across₉, k_chart_wide₉, k_chart_high₉, k_chart_shape₉, k_log_done₉, k_log_undone₉) → ∀ (H : Heap) (locs : List Loc), va_P D vwCl [(a_t, .inr (6, [.ref a_lines, .ref a_chart, .ref a_trial, .ref a_log, .ref a_shelves, .ref a_shown, .int k_shownCount, .int k_status, .int k_whyStep, .int k_whyReason, .int k_whyBarge, z_search, z_plan])), (a_chart, .inr (0, [.int k_chart_width, .int k_chart_height, .int k_chart_barges, .long k_chart_walls, .long k_chart_taken, .ref a_chart_kind, .ref a_chart_place, .ref a_chart_length, .ref a_chart_gate, .ref a_chart_across, .ref a_chart_wide, .ref a_chart_high, .ref a_chart_shape])), (a_chart_kind, .inl (cT 0, 12, .inl k_chart_kind)), (a_chart_place, .inl (cT 0, 12, .inl k_chart_place)), (a_chart_length, .inl (cT 0, 12, .inl k_chart_length)), (a_chart_gate, .inl (cT 0, 12, .inl k_chart_gate)), (a_chart_across, .inl (cT 2, 12, .inl k_chart_across)), (a_chart_wide, .inl (cT 0, 12, .inl k_chart_wide)), (a_chart_high, .inl (cT 0, 12, .inl k_chart_high)), (a_chart_shape, .inl (cT 1, 12, .inr (.inl k_chart_shape))), (a_log, .inr (3, [.ref a_log_moves, .int k_log_first, .int k_log_done, .int k_log_undone]))] H → va_D A [(a_t, .inr (6, [.ref a_lines, .ref a_chart, .ref a_trial, .ref a_log, .ref a_shelves, .ref a_shown, .int k_shownCount, .int k_status, .int k_whyStep, .int k_whyReason, .int k_whyBarge, z_search, z_plan])), (a_chart, .inr (0, [.int k_chart_width, .int k_chart_height, .int k_chart_barges, .long k_chart_walls, .long k_chart_taken, .ref a_chart_kind, .ref a_chart_place, .ref a_chart_length, .ref a_chart_gate, .ref a_chart_across, .ref a_chart_wide, .ref a_chart_high, .ref a_chart_shape])), (a_chart_kind, .inl (cT 0, 12, .inl k_chart_kind)), (a_chart_place, .inl (cT 0, 12, .inl k_chart_place)), (a_chart_length, .inl (cT 0, 12, .inl k_chart_length)), (a_chart_gate, .inl (cT 0, 12, .inl k_chart_gate)), (a_chart_across, .inl (cT 2, 12, .inl k_chart_across)), (a_chart_wide, .inl (cT 0, 12, .inl k_chart_wide)), (a_chart_high, .inl (cT 0, 12, .inl k_chart_high)), (a_chart_shape, .inl (cT 1, 12, .inr (.inl k_chart_shape))), (a_log, .inr (3, [.ref a_log_moves, .int k_log_first, .int k_log_done, .int k_log_undone]))] → va_S A s.heap H locs → ∀ (ls : Array Slot), lv_has ls 7 [(0, .ref a_t), (1, .int v1), (2, .int v2), (3, .int v3), (4, .int v4)] → W p l e (headSpec wsX6_barge rm_BargeBasin_barge).room s m ([.ref a_t, .int v1, .int v2, .int v3, .int v4, .int v5] : List Value).toArray below meth c H locs 0 0 Q (F0 m 53 ls []) := by
    intro k_status k_chart_barges k_chart_taken k_chart_kind k_chart_place k_chart_length k_chart_gate k_chart_across k_chart_wide k_chart_high k_chart_shape k_log_done k_log_undone hf H locs hP hD hS ls hl
    unfold f_BargeBasin_barge_J53 at hf
    refine lv_iconst (v := 0) hx hb dX6_barge_53 (by decide) ?_
    exact J54 _ _ _ _ _ _ _ _ _ _ _ _ _ _ hf _ _ hP hD hS ls (lv_sub hl [0, 1, 2, 3, 4] rfl)
  refine j_start (A := A) hP (fun H locs hP hS => ?_)
  unfold f_BargeBasin_barge at hf
  refine lv_aload_n hx hb dX6_barge_0 rfl (lv_at hl 0 rfl) ?_
  replace hf := ob_b hf
  obtain ⟨zr_1, hc_2, hf⟩ := hf
  refine vp_callSi (W.runV (As := []) (rest := []) ⟨hx, hb, hml, hown, hts⟩ (c_f_BargeBasin_hasNoBasin l D cT a_t a_lines a_chart a_trial a_log a_shelves a_shown a_chart_kind a_chart_place a_chart_length a_chart_gate a_chart_across a_chart_wide a_chart_high a_chart_shape z_search z_plan k_shownCount k_status k_whyStep k_whyReason k_whyBarge k_chart_width k_chart_height k_chart_barges k_chart_walls k_chart_taken _ hc_2) (cwV 0 hts gX6_barge_X6_hasNoBasin rfl rfl rfl (by decide +kernel) ⟨Nat.le_of_ble_eq_true rfl, Nat.le_of_ble_eq_true rfl⟩) ⟨fun a U g mk q => by obtain ⟨q0, qP, qK, qN⟩ := q; exact ⟨q0, qP, va_K.moved (u := U) (U := U.calling g mk a) (Vm.Alike.refl U.vm) qK, jNw_same (u := U) (U := U.calling g mk a) rfl qN⟩, va_recv hK hP (ci := 6) (q0 := 0) rfl rfl, fun U hU hW => ⟨rfl, by rw [hU]; exact hP.sub [0, 1] rfl, va_K.moved hW.alike hK, jNw_warm hW hN⟩⟩ rfl rfl hl.1 rfl (lv_room (Nat.le_of_ble_eq_true rfl)) dX6_barge_1 ⟨Nat.le_of_ble_eq_true rfl, Nat.le_of_ble_eq_true rfl⟩) (fun r_1 er_3 => ?_)
  subst er_3
  refine lv_if_eq (tgt := 13) hx hb dX6_barge_4 (by decide) (fun c_4 => ?_) (fun c_4 => ?_)
  · replace hf := ob_pos c_4 hf
    refine lv_iload_n hx hb dX6_barge_13 rfl (lv_at hl 1 rfl) ?_
    refine lv_iload hx hb dX6_barge_14 (lv_at hl 4 rfl) ?_
    replace hf := ob_b hf
    obtain ⟨zr_5, hc_6, hf⟩ := hf
    refine vp_callSi (W.runS (As := [.int v1, .int v4]) (rest := []) ⟨hx, hb, hml, hown, hts⟩ (c_f_BargeBasin_isLengthOf l D cT v1 v4 _ hc_6) (cwS 2 hts gX6_barge_X6_isLengthOf rfl rfl rfl (by decide +kernel) ⟨Nat.le_of_ble_eq_true rfl, Nat.le_of_ble_eq_true rfl⟩) ⟨fun a U g mk q => q, fun U hU hW => ⟨rfl, trivial⟩⟩ rfl rfl hl.1 rfl (lv_room (Nat.le_of_ble_eq_true rfl)) dX6_barge_16 ⟨Nat.le_of_ble_eq_true rfl, Nat.le_of_ble_eq_true rfl⟩) (fun r_5 er_7 => ?_)
    subst er_7
    refine lv_if_eq (tgt := 31) hx hb dX6_barge_19 (by decide) (fun c_8 => ?_) (fun c_8 => ?_)
    · replace hf := ob_pos c_8 hf
      refine lv_aload_n hx hb dX6_barge_31 rfl (lv_at hl 0 rfl) ?_
      refine lv_iconst (v := 2) hx hb dX6_barge_32 (by decide) ?_
      replace hf := ob_b hf
      obtain ⟨⟨zr_9, k_status_10⟩, hc_11, hf⟩ := hf
      replace hf := ob_un2 hf
      have hPc := hP.sub (ws' := [(a_t, .inr (6, [.ref a_lines, .ref a_chart, .ref a_trial, .ref a_log, .ref a_shelves, .ref a_shown, .int k_shownCount, .int k_status, .int k_whyStep, .int k_whyReason, .int k_whyBarge, z_search, z_plan]))]) [0] rfl
      have hDc := hD.sub (ws' := [(a_t, .inr (6, [.ref a_lines, .ref a_chart, .ref a_trial, .ref a_log, .ref a_shelves, .ref a_shown, .int k_shownCount, .int k_status, .int k_whyStep, .int k_whyReason, .int k_whyBarge, z_search, z_plan]))]) [0] (by decide) rfl
      have hFc := va_free (wc := [(a_t, .inr (6, [.ref a_lines, .ref a_chart, .ref a_trial, .ref a_log, .ref a_shelves, .ref a_shown, .int k_shownCount, .int k_status, .int k_whyStep, .int k_whyReason, .int k_whyBarge, z_search, z_plan]))]) hD hS hA [0] rfl
      refine va_calli (va_runV (As := [.int ((2 : Int32))]) (rest := []) ⟨hx, hb, hml, hown, hts⟩ (c_f_BargeBasin_refuse l D cT H.size a_t a_lines a_chart a_trial a_log a_shelves a_shown z_search z_plan k_shownCount k_status k_whyStep k_whyReason k_whyBarge ((2 : Int32)) _ _ hc_11) (cwV 1 hts gX6_barge_X6_refuse rfl rfl rfl (by decide +kernel) ⟨Nat.le_of_ble_eq_true rfl, Nat.le_of_ble_eq_true rfl⟩) ⟨fun a U g mk q => by obtain ⟨q0, q1, qP, qK, qN, qD⟩ := q; exact ⟨q0, q1, qP, va_K.moved (u := U) (U := U.calling g mk a) (Vm.Alike.refl U.vm) qK, jNw_same (u := U) (U := U.calling g mk a) rfl qN, qD⟩, va_recv hK hP (ci := 6) (q0 := 0) rfl rfl, fun U hU hW => ⟨rfl, by rw [hU], by rw [hU]; exact hPc, va_K.moved hW.alike hK, jNw_warm hW hN, hDc.weaken (fun _ _ _ _ => trivial)⟩⟩ rfl rfl hl.1 rfl (lv_room (Nat.le_of_ble_eq_true rfl)) dX6_barge_33 ⟨Nat.le_of_ble_eq_true rfl, Nat.le_of_ble_eq_true rfl⟩) hS (fun q _ h => hFc q h) hFc (fun r_9 u t H1 locs ht hvm er_12 hB hz1 hk1 hS => ?_)
      subst er_12
      obtain ⟨hP1, hK1, hD1⟩ := hB
      rw [ht] at hP1
      have hPD := va_join (wr := [(a_chart, .inr (0, [.int k_chart_width, .int k_chart_height, .int k_chart_barges, .long k_chart_walls, .long k_chart_taken, .ref a_chart_kind, .ref a_chart_place, .ref a_chart_length, .ref a_chart_gate, .ref a_chart_across, .ref a_chart_wide, .ref a_chart_high, .ref a_chart_shape])), (a_chart_kind, .inl (cT 0, 12, .inl k_chart_kind)), (a_chart_place, .inl (cT 0, 12, .inl k_chart_place)), (a_chart_length, .inl (cT 0, 12, .inl k_chart_length)), (a_chart_gate, .inl (cT 0, 12, .inl k_chart_gate)), (a_chart_across, .inl (cT 2, 12, .inl k_chart_across)), (a_chart_wide, .inl (cT 0, 12, .inl k_chart_wide)), (a_chart_high, .inl (cT 0, 12, .inl k_chart_high)), (a_chart_shape, .inl (cT 1, 12, .inr (.inl k_chart_shape))), (a_log, .inr (3, [.ref a_log_moves, .int k_log_first, .int k_log_done, .int k_log_undone]))]) (w1 := [(a_t, .inr (6, [.ref a_lines, .ref a_chart, .ref a_trial, .ref a_log, .ref a_shelves, .ref a_shown, .int k_shownCount, .int k_status_10, .int k_whyStep, .int k_whyReason, .int k_whyBarge, z_search, z_plan]))]) hP hD [0] [1, 2, 3, 4, 5, 6, 7, 8, 9, 10] rfl rfl (by decide) (by decide) hk1 hFc hP1 hD1
      clear hP hD
      obtain ⟨hP, hD⟩ := hPD
      replace hP := hP.sub (ws' := [(a_t, .inr (6, [.ref a_lines, .ref a_chart, .ref a_trial, .ref a_log, .ref a_shelves, .ref a_shown, .int k_shownCount, .int k_status_10, .int k_whyStep, .int k_whyReason, .int k_whyBarge, z_search, z_plan])), (a_chart, .inr (0, [.int k_chart_width, .int k_chart_height, .int k_chart_barges, .long k_chart_walls, .long k_chart_taken, .ref a_chart_kind, .ref a_chart_place, .ref a_chart_length, .ref a_chart_gate, .ref a_chart_across, .ref a_chart_wide, .ref a_chart_high, .ref a_chart_shape])), (a_chart_kind, .inl (cT 0, 12, .inl k_chart_kind)), (a_chart_place, .inl (cT 0, 12, .inl k_chart_place)), (a_chart_length, .inl (cT 0, 12, .inl k_chart_length)), (a_chart_gate, .inl (cT 0, 12, .inl k_chart_gate)), (a_chart_across, .inl (cT 2, 12, .inl k_chart_across)), (a_chart_wide, .inl (cT 0, 12, .inl k_chart_wide)), (a_chart_high, .inl (cT 0, 12, .inl k_chart_high)), (a_chart_shape, .inl (cT 1, 12, .inr (.inl k_chart_shape))), (a_log, .inr (3, [.ref a_log_moves, .int k_log_first, .int k_log_done, .int k_log_undone]))]) [10, 0, 1, 2, 3, 4, 5, 6, 7, 8, 9] rfl
      replace hD := hD.sub (ws' := [(a_t, .inr (6, [.ref a_lines, .ref a_chart, .ref a_trial, .ref a_log, .ref a_shelves, .ref a_shown, .int k_shownCount, .int k_status_10, .int k_whyStep, .int k_whyReason, .int k_whyBarge, z_search, z_plan])), (a_chart, .inr (0, [.int k_chart_width, .int k_chart_height, .int k_chart_barges, .long k_chart_walls, .long k_chart_taken, .ref a_chart_kind, .ref a_chart_place, .ref a_chart_length, .ref a_chart_gate, .ref a_chart_across, .ref a_chart_wide, .ref a_chart_high, .ref a_chart_shape])), (a_chart_kind, .inl (cT 0, 12, .inl k_chart_kind)), (a_chart_place, .inl (cT 0, 12, .inl k_chart_place)), (a_chart_length, .inl (cT 0, 12, .inl k_chart_length)), (a_chart_gate, .inl (cT 0, 12, .inl k_chart_gate)), (a_chart_across, .inl (cT 2, 12, .inl k_chart_across)), (a_chart_wide, .inl (cT 0, 12, .inl k_chart_wide)), (a_chart_high, .inl (cT 0, 12, .inl k_chart_high)), (a_chart_shape, .inl (cT 1, 12, .inr (.inl k_chart_shape))), (a_log, .inr (3, [.ref a_log_moves, .int k_log_first, .int k_log_done, .int k_log_undone]))]) [10, 0, 1, 2, 3, 4, 5, 6, 7, 8, 9] (by decide) rfl
      clear hPc hDc hFc hP1 hK1 hD1 hk1 hz1
      generalize H1 = H at hP hS ⊢
      replace hf := ob_t14 hf
      obtain ⟨ee0, ee1, ee2, ee3, ee4, ee5, ee6, ee7, ee8, ee9, ee10, ee11, ee12, ee13⟩ := hf
      subst ee0
      subst ee1
      subst ee2
      subst ee3
      subst ee4
      subst ee5
      subst ee6
      subst ee7
      subst ee8
      subst ee9
      subst ee10
      subst ee11
      subst ee12
      subst ee13
      subst hQ
      exact W.iret hx hb hr (fun t ht hW => ⟨⟨_, (), rfl, rfl, by rw [ht]; exact hP, va_K.moved hW.alike hK, hD⟩, hS.F ht⟩) hS.2.2 dX6_barge_36
    · replace hf := ob_neg c_8 hf
      refine lv_aload_n hx hb dX6_barge_22 rfl (lv_at hl 0 rfl) ?_
      refine lv_iload_n hx hb dX6_barge_23 rfl (lv_at hl 2 rfl) ?_
      refine lv_iload_n hx hb dX6_barge_24 rfl (lv_at hl 3 rfl) ?_
      replace hf := ob_b hf
      obtain ⟨zr_13, hc_14, hf⟩ := hf
      refine vp_callSi (W.runV (As := [.int v2, .int v3]) (rest := []) ⟨hx, hb, hml, hown, hts⟩ (c_f_BargeBasin_isNoField l D cT a_t a_lines a_chart a_trial a_log a_shelves a_shown a_chart_kind a_chart_place a_chart_length a_chart_gate a_chart_across a_chart_wide a_chart_high a_chart_shape z_search z_plan k_shownCount k_status k_whyStep k_whyReason k_whyBarge k_chart_width k_chart_height k_chart_barges k_chart_walls k_chart_taken v2 v3 _ hc_14) (cwV 2 hts gX6_barge_X6_isNoField rfl rfl rfl (by decide +kernel) ⟨Nat.le_of_ble_eq_true rfl, Nat.le_of_ble_eq_true rfl⟩) ⟨fun a U g mk q => by obtain ⟨q0, qP, qK, qN⟩ := q; exact ⟨q0, qP, va_K.moved (u := U) (U := U.calling g mk a) (Vm.Alike.refl U.vm) qK, jNw_same (u := U) (U := U.calling g mk a) rfl qN⟩, va_recv hK hP (ci := 6) (q0 := 0) rfl rfl, fun U hU hW => ⟨rfl, by rw [hU]; exact hP.sub [0, 1] rfl, va_K.moved hW.alike hK, jNw_warm hW hN⟩⟩ rfl rfl hl.1 rfl (lv_room (Nat.le_of_ble_eq_true rfl)) dX6_barge_25 ⟨Nat.le_of_ble_eq_true rfl, Nat.le_of_ble_eq_true rfl⟩) (fun r_13 er_15 => ?_)
      subst er_15
      refine lv_if_eq (tgt := 37) hx hb dX6_barge_28 (by decide) (fun c_16 => ?_) (fun c_16 => ?_)
      · replace hf := ob_pos c_16 hf
        refine lv_iload hx hb dX6_barge_37 (lv_at hl 5 rfl) ?_
        refine lv_if_eq (tgt := 53) hx hb dX6_barge_39 (by decide) (fun c_17 => ?_) (fun c_17 => ?_)
        · replace hf := ob_pos c_17 hf
          exact J53 _ _ _ _ _ _ _ _ _ _ _ _ _ hf _ _ hP hD hS ls (lv_sub hl [0, 1, 2, 3, 4] rfl)
        · replace hf := ob_neg c_17 hf
          refine lv_iload_n hx hb dX6_barge_42 rfl (lv_at hl 1 rfl) ?_
          replace hf := ob_b hf
          obtain ⟨zr_51, hc_52, hf⟩ := hf
          refine vp_callSi (W.runS (As := [.int v1]) (rest := []) ⟨hx, hb, hml, hown, hts⟩ (c_f_BargeBasin_isBound l D cT v1 _ hc_52) (cwS 1 hts gX6_barge_X6_isBound rfl rfl rfl (by decide +kernel) ⟨Nat.le_of_ble_eq_true rfl, Nat.le_of_ble_eq_true rfl⟩) ⟨fun a U g mk q => q, fun U hU hW => ⟨rfl, trivial⟩⟩ rfl rfl hl.1 rfl (lv_room (Nat.le_of_ble_eq_true rfl)) dX6_barge_43 ⟨Nat.le_of_ble_eq_true rfl, Nat.le_of_ble_eq_true rfl⟩) (fun r_51 er_53 => ?_)
          subst er_53
          refine lv_if_eq (tgt := 53) hx hb dX6_barge_46 (by decide) (fun c_54 => ?_) (fun c_54 => ?_)
          · replace hf := ob_pos c_54 hf
            exact J53 _ _ _ _ _ _ _ _ _ _ _ _ _ hf _ _ hP hD hS ls (lv_sub hl [0, 1, 2, 3, 4] rfl)
          · replace hf := ob_neg c_54 hf
            refine lv_iconst (v := 1) hx hb dX6_barge_49 (by decide) ?_
            refine lv_goto (tgt := 54) hx hb dX6_barge_50 (by decide) ?_
            exact J54 _ _ _ _ _ _ _ _ _ _ _ _ _ _ hf _ _ hP hD hS ls (lv_sub hl [0, 1, 2, 3, 4] rfl)
      · replace hf := ob_neg c_16 hf
        refine lv_aload_n hx hb dX6_barge_31 rfl (lv_at hl 0 rfl) ?_
        refine lv_iconst (v := 2) hx hb dX6_barge_32 (by decide) ?_
        replace hf := ob_b hf
        obtain ⟨⟨zr_55, k_status_56⟩, hc_57, hf⟩ := hf
        replace hf := ob_un2 hf
        have hPc := hP.sub (ws' := [(a_t, .inr (6, [.ref a_lines, .ref a_chart, .ref a_trial, .ref a_log, .ref a_shelves, .ref a_shown, .int k_shownCount, .int k_status, .int k_whyStep, .int k_whyReason, .int k_whyBarge, z_search, z_plan]))]) [0] rfl
        have hDc := hD.sub (ws' := [(a_t, .inr (6, [.ref a_lines, .ref a_chart, .ref a_trial, .ref a_log, .ref a_shelves, .ref a_shown, .int k_shownCount, .int k_status, .int k_whyStep, .int k_whyReason, .int k_whyBarge, z_search, z_plan]))]) [0] (by decide) rfl
        have hFc := va_free (wc := [(a_t, .inr (6, [.ref a_lines, .ref a_chart, .ref a_trial, .ref a_log, .ref a_shelves, .ref a_shown, .int k_shownCount, .int k_status, .int k_whyStep, .int k_whyReason, .int k_whyBarge, z_search, z_plan]))]) hD hS hA [0] rfl
        refine va_calli (va_runV (As := [.int ((2 : Int32))]) (rest := []) ⟨hx, hb, hml, hown, hts⟩ (c_f_BargeBasin_refuse l D cT H.size a_t a_lines a_chart a_trial a_log a_shelves a_shown z_search z_plan k_shownCount k_status k_whyStep k_whyReason k_whyBarge ((2 : Int32)) _ _ hc_57) (cwV 1 hts gX6_barge_X6_refuse rfl rfl rfl (by decide +kernel) ⟨Nat.le_of_ble_eq_true rfl, Nat.le_of_ble_eq_true rfl⟩) ⟨fun a U g mk q => by obtain ⟨q0, q1, qP, qK, qN, qD⟩ := q; exact ⟨q0, q1, qP, va_K.moved (u := U) (U := U.calling g mk a) (Vm.Alike.refl U.vm) qK, jNw_same (u := U) (U := U.calling g mk a) rfl qN, qD⟩, va_recv hK hP (ci := 6) (q0 := 0) rfl rfl, fun U hU hW => ⟨rfl, by rw [hU], by rw [hU]; exact hPc, va_K.moved hW.alike hK, jNw_warm hW hN, hDc.weaken (fun _ _ _ _ => trivial)⟩⟩ rfl rfl hl.1 rfl (lv_room (Nat.le_of_ble_eq_true rfl)) dX6_barge_33 ⟨Nat.le_of_ble_eq_true rfl, Nat.le_of_ble_eq_true rfl⟩) hS (fun q _ h => hFc q h) hFc (fun r_55 u t H1 locs ht hvm er_58 hB hz1 hk1 hS => ?_)
        subst er_58
        obtain ⟨hP1, hK1, hD1⟩ := hB
        rw [ht] at hP1
        have hPD := va_join (wr := [(a_chart, .inr (0, [.int k_chart_width, .int k_chart_height, .int k_chart_barges, .long k_chart_walls, .long k_chart_taken, .ref a_chart_kind, .ref a_chart_place, .ref a_chart_length, .ref a_chart_gate, .ref a_chart_across, .ref a_chart_wide, .ref a_chart_high, .ref a_chart_shape])), (a_chart_kind, .inl (cT 0, 12, .inl k_chart_kind)), (a_chart_place, .inl (cT 0, 12, .inl k_chart_place)), (a_chart_length, .inl (cT 0, 12, .inl k_chart_length)), (a_chart_gate, .inl (cT 0, 12, .inl k_chart_gate)), (a_chart_across, .inl (cT 2, 12, .inl k_chart_across)), (a_chart_wide, .inl (cT 0, 12, .inl k_chart_wide)), (a_chart_high, .inl (cT 0, 12, .inl k_chart_high)), (a_chart_shape, .inl (cT 1, 12, .inr (.inl k_chart_shape))), (a_log, .inr (3, [.ref a_log_moves, .int k_log_first, .int k_log_done, .int k_log_undone]))]) (w1 := [(a_t, .inr (6, [.ref a_lines, .ref a_chart, .ref a_trial, .ref a_log, .ref a_shelves, .ref a_shown, .int k_shownCount, .int k_status_56, .int k_whyStep, .int k_whyReason, .int k_whyBarge, z_search, z_plan]))]) hP hD [0] [1, 2, 3, 4, 5, 6, 7, 8, 9, 10] rfl rfl (by decide) (by decide) hk1 hFc hP1 hD1
        clear hP hD
        obtain ⟨hP, hD⟩ := hPD
        replace hP := hP.sub (ws' := [(a_t, .inr (6, [.ref a_lines, .ref a_chart, .ref a_trial, .ref a_log, .ref a_shelves, .ref a_shown, .int k_shownCount, .int k_status_56, .int k_whyStep, .int k_whyReason, .int k_whyBarge, z_search, z_plan])), (a_chart, .inr (0, [.int k_chart_width, .int k_chart_height, .int k_chart_barges, .long k_chart_walls, .long k_chart_taken, .ref a_chart_kind, .ref a_chart_place, .ref a_chart_length, .ref a_chart_gate, .ref a_chart_across, .ref a_chart_wide, .ref a_chart_high, .ref a_chart_shape])), (a_chart_kind, .inl (cT 0, 12, .inl k_chart_kind)), (a_chart_place, .inl (cT 0, 12, .inl k_chart_place)), (a_chart_length, .inl (cT 0, 12, .inl k_chart_length)), (a_chart_gate, .inl (cT 0, 12, .inl k_chart_gate)), (a_chart_across, .inl (cT 2, 12, .inl k_chart_across)), (a_chart_wide, .inl (cT 0, 12, .inl k_chart_wide)), (a_chart_high, .inl (cT 0, 12, .inl k_chart_high)), (a_chart_shape, .inl (cT 1, 12, .inr (.inl k_chart_shape))), (a_log, .inr (3, [.ref a_log_moves, .int k_log_first, .int k_log_done, .int k_log_undone]))]) [10, 0, 1, 2, 3, 4, 5, 6, 7, 8, 9] rfl
        replace hD := hD.sub (ws' := [(a_t, .inr (6, [.ref a_lines, .ref a_chart, .ref a_trial, .ref a_log, .ref a_shelves, .ref a_shown, .int k_shownCount, .int k_status_56, .int k_whyStep, .int k_whyReason, .int k_whyBarge, z_search, z_plan])), (a_chart, .inr (0, [.int k_chart_width, .int k_chart_height, .int k_chart_barges, .long k_chart_walls, .long k_chart_taken, .ref a_chart_kind, .ref a_chart_place, .ref a_chart_length, .ref a_chart_gate, .ref a_chart_across, .ref a_chart_wide, .ref a_chart_high, .ref a_chart_shape])), (a_chart_kind, .inl (cT 0, 12, .inl k_chart_kind)), (a_chart_place, .inl (cT 0, 12, .inl k_chart_place)), (a_chart_length, .inl (cT 0, 12, .inl k_chart_length)), (a_chart_gate, .inl (cT 0, 12, .inl k_chart_gate)), (a_chart_across, .inl (cT 2, 12, .inl k_chart_across)), (a_chart_wide, .inl (cT 0, 12, .inl k_chart_wide)), (a_chart_high, .inl (cT 0, 12, .inl k_chart_high)), (a_chart_shape, .inl (cT 1, 12, .inr (.inl k_chart_shape))), (a_log, .inr (3, [.ref a_log_moves, .int k_log_first, .int k_log_done, .int k_log_undone]))]) [10, 0, 1, 2, 3, 4, 5, 6, 7, 8, 9] (by decide) rfl
        clear hPc hDc hFc hP1 hK1 hD1 hk1 hz1
        generalize H1 = H at hP hS ⊢
        replace hf := ob_t14 hf
        obtain ⟨ee0, ee1, ee2, ee3, ee4, ee5, ee6, ee7, ee8, ee9, ee10, ee11, ee12, ee13⟩ := hf
        subst ee0
        subst ee1
        subst ee2
        subst ee3
        subst ee4
        subst ee5
        subst ee6
        subst ee7
        subst ee8
        subst ee9
        subst ee10
        subst ee11
        subst ee12
        subst ee13
        subst hQ
        exact W.iret hx hb hr (fun t ht hW => ⟨⟨_, (), rfl, rfl, by rw [ht]; exact hP, va_K.moved hW.alike hK, hD⟩, hS.F ht⟩) hS.2.2 dX6_barge_36
  · replace hf := ob_neg c_4 hf
    refine lv_aload_n hx hb dX6_barge_7 rfl (lv_at hl 0 rfl) ?_
    refine lv_iconst (v := 1) hx hb dX6_barge_8 (by decide) ?_
    replace hf := ob_b hf
    obtain ⟨⟨zr_59, k_status_60⟩, hc_61, hf⟩ := hf
    replace hf := ob_un2 hf
    have hPc := hP.sub (ws' := [(a_t, .inr (6, [.ref a_lines, .ref a_chart, .ref a_trial, .ref a_log, .ref a_shelves, .ref a_shown, .int k_shownCount, .int k_status, .int k_whyStep, .int k_whyReason, .int k_whyBarge, z_search, z_plan]))]) [0] rfl
    have hDc := hD.sub (ws' := [(a_t, .inr (6, [.ref a_lines, .ref a_chart, .ref a_trial, .ref a_log, .ref a_shelves, .ref a_shown, .int k_shownCount, .int k_status, .int k_whyStep, .int k_whyReason, .int k_whyBarge, z_search, z_plan]))]) [0] (by decide) rfl
    have hFc := va_free (wc := [(a_t, .inr (6, [.ref a_lines, .ref a_chart, .ref a_trial, .ref a_log, .ref a_shelves, .ref a_shown, .int k_shownCount, .int k_status, .int k_whyStep, .int k_whyReason, .int k_whyBarge, z_search, z_plan]))]) hD hS hA [0] rfl
    refine va_calli (va_runV (As := [.int ((1 : Int32))]) (rest := []) ⟨hx, hb, hml, hown, hts⟩ (c_f_BargeBasin_refuse l D cT H.size a_t a_lines a_chart a_trial a_log a_shelves a_shown z_search z_plan k_shownCount k_status k_whyStep k_whyReason k_whyBarge ((1 : Int32)) _ _ hc_61) (cwV 1 hts gX6_barge_X6_refuse rfl rfl rfl (by decide +kernel) ⟨Nat.le_of_ble_eq_true rfl, Nat.le_of_ble_eq_true rfl⟩) ⟨fun a U g mk q => by obtain ⟨q0, q1, qP, qK, qN, qD⟩ := q; exact ⟨q0, q1, qP, va_K.moved (u := U) (U := U.calling g mk a) (Vm.Alike.refl U.vm) qK, jNw_same (u := U) (U := U.calling g mk a) rfl qN, qD⟩, va_recv hK hP (ci := 6) (q0 := 0) rfl rfl, fun U hU hW => ⟨rfl, by rw [hU], by rw [hU]; exact hPc, va_K.moved hW.alike hK, jNw_warm hW hN, hDc.weaken (fun _ _ _ _ => trivial)⟩⟩ rfl rfl hl.1 rfl (lv_room (Nat.le_of_ble_eq_true rfl)) dX6_barge_9 ⟨Nat.le_of_ble_eq_true rfl, Nat.le_of_ble_eq_true rfl⟩) hS (fun q _ h => hFc q h) hFc (fun r_59 u t H1 locs ht hvm er_62 hB hz1 hk1 hS => ?_)
    subst er_62
    obtain ⟨hP1, hK1, hD1⟩ := hB
    rw [ht] at hP1
    have hPD := va_join (wr := [(a_chart, .inr (0, [.int k_chart_width, .int k_chart_height, .int k_chart_barges, .long k_chart_walls, .long k_chart_taken, .ref a_chart_kind, .ref a_chart_place, .ref a_chart_length, .ref a_chart_gate, .ref a_chart_across, .ref a_chart_wide, .ref a_chart_high, .ref a_chart_shape])), (a_chart_kind, .inl (cT 0, 12, .inl k_chart_kind)), (a_chart_place, .inl (cT 0, 12, .inl k_chart_place)), (a_chart_length, .inl (cT 0, 12, .inl k_chart_length)), (a_chart_gate, .inl (cT 0, 12, .inl k_chart_gate)), (a_chart_across, .inl (cT 2, 12, .inl k_chart_across)), (a_chart_wide, .inl (cT 0, 12, .inl k_chart_wide)), (a_chart_high, .inl (cT 0, 12, .inl k_chart_high)), (a_chart_shape, .inl (cT 1, 12, .inr (.inl k_chart_shape))), (a_log, .inr (3, [.ref a_log_moves, .int k_log_first, .int k_log_done, .int k_log_undone]))]) (w1 := [(a_t, .inr (6, [.ref a_lines, .ref a_chart, .ref a_trial, .ref a_log, .ref a_shelves, .ref a_shown, .int k_shownCount, .int k_status_60, .int k_whyStep, .int k_whyReason, .int k_whyBarge, z_search, z_plan]))]) hP hD [0] [1, 2, 3, 4, 5, 6, 7, 8, 9, 10] rfl rfl (by decide) (by decide) hk1 hFc hP1 hD1
    clear hP hD
    obtain ⟨hP, hD⟩ := hPD
    replace hP := hP.sub (ws' := [(a_t, .inr (6, [.ref a_lines, .ref a_chart, .ref a_trial, .ref a_log, .ref a_shelves, .ref a_shown, .int k_shownCount, .int k_status_60, .int k_whyStep, .int k_whyReason, .int k_whyBarge, z_search, z_plan])), (a_chart, .inr (0, [.int k_chart_width, .int k_chart_height, .int k_chart_barges, .long k_chart_walls, .long k_chart_taken, .ref a_chart_kind, .ref a_chart_place, .ref a_chart_length, .ref a_chart_gate, .ref a_chart_across, .ref a_chart_wide, .ref a_chart_high, .ref a_chart_shape])), (a_chart_kind, .inl (cT 0, 12, .inl k_chart_kind)), (a_chart_place, .inl (cT 0, 12, .inl k_chart_place)), (a_chart_length, .inl (cT 0, 12, .inl k_chart_length)), (a_chart_gate, .inl (cT 0, 12, .inl k_chart_gate)), (a_chart_across, .inl (cT 2, 12, .inl k_chart_across)), (a_chart_wide, .inl (cT 0, 12, .inl k_chart_wide)), (a_chart_high, .inl (cT 0, 12, .inl k_chart_high)), (a_chart_shape, .inl (cT 1, 12, .inr (.inl k_chart_shape))), (a_log, .inr (3, [.ref a_log_moves, .int k_log_first, .int k_log_done, .int k_log_undone]))]) [10, 0, 1, 2, 3, 4, 5, 6, 7, 8, 9] rfl
    replace hD := hD.sub (ws' := [(a_t, .inr (6, [.ref a_lines, .ref a_chart, .ref a_trial, .ref a_log, .ref a_shelves, .ref a_shown, .int k_shownCount, .int k_status_60, .int k_whyStep, .int k_whyReason, .int k_whyBarge, z_search, z_plan])), (a_chart, .inr (0, [.int k_chart_width, .int k_chart_height, .int k_chart_barges, .long k_chart_walls, .long k_chart_taken, .ref a_chart_kind, .ref a_chart_place, .ref a_chart_length, .ref a_chart_gate, .ref a_chart_across, .ref a_chart_wide, .ref a_chart_high, .ref a_chart_shape])), (a_chart_kind, .inl (cT 0, 12, .inl k_chart_kind)), (a_chart_place, .inl (cT 0, 12, .inl k_chart_place)), (a_chart_length, .inl (cT 0, 12, .inl k_chart_length)), (a_chart_gate, .inl (cT 0, 12, .inl k_chart_gate)), (a_chart_across, .inl (cT 2, 12, .inl k_chart_across)), (a_chart_wide, .inl (cT 0, 12, .inl k_chart_wide)), (a_chart_high, .inl (cT 0, 12, .inl k_chart_high)), (a_chart_shape, .inl (cT 1, 12, .inr (.inl k_chart_shape))), (a_log, .inr (3, [.ref a_log_moves, .int k_log_first, .int k_log_done, .int k_log_undone]))]) [10, 0, 1, 2, 3, 4, 5, 6, 7, 8, 9] (by decide) rfl
    clear hPc hDc hFc hP1 hK1 hD1 hk1 hz1
    generalize H1 = H at hP hS ⊢
    replace hf := ob_t14 hf
    obtain ⟨ee0, ee1, ee2, ee3, ee4, ee5, ee6, ee7, ee8, ee9, ee10, ee11, ee12, ee13⟩ := hf
    subst ee0
    subst ee1
    subst ee2
    subst ee3
    subst ee4
    subst ee5
    subst ee6
    subst ee7
    subst ee8
    subst ee9
    subst ee10
    subst ee11
    subst ee12
    subst ee13
    subst hQ
    exact W.iret hx hb hr (fun t ht hW => ⟨⟨_, (), rfl, rfl, by rw [ht]; exact hP, va_K.moved hW.alike hK, hD⟩, hS.F ht⟩) hS.2.2 dX6_barge_12
theorem iw_wsX6_faultOfBarge_X6 : ∀ w ∈ wsX60, w ∈ wsX6_faultOfBarge := fun _ h => List.mem_cons_of_mem _ (List.mem_append_left _ (List.mem_append_right _ h))
theorem iw_wsX6_faultOfBarge_X0 : ∀ w ∈ wsX00, w ∈ wsX6_faultOfBarge := fun _ h => List.mem_cons_of_mem _ (List.mem_append_right _ h)
abbrev rm_BargeBasin_faultOfBarge : Room := { frames := 1, cells := 0, slots := 0, locals := 20 }
set_option maxHeartbeats 4000000 in
set_option maxRecDepth 100000 in
theorem c_f_BargeBasin_faultOfBarge (l : Launch) (D : va_G) (cT : Nat → ClassId) (a_t a_lines a_chart a_trial a_log a_shelves a_shown a_chart_kind a_chart_place a_chart_length a_chart_gate a_chart_across a_chart_wide a_chart_high a_chart_shape : Nat) (z_search z_plan : Value) (k_shownCount : Int32) (k_status : Int32) (k_whyStep : Int32) (k_whyReason : Int32) (k_whyBarge : Int32) (k_chart_width : Int32) (k_chart_height : Int32) (k_chart_barges : Int32) (k_chart_walls : Int64) (k_chart_taken : Int64) (v1 : Int32) (r0 : Int32) (hf : f_BargeBasin_faultOfBarge v1 k_chart_width k_chart_barges = some r0) : Met l yX6_faultOfBarge wsX6_faultOfBarge rm_BargeBasin_faultOfBarge (va_Pc [.ref a_t, .int v1] (fun U => va_P D vwCl [(a_t, .inr (6, [.ref a_lines, .ref a_chart, .ref a_trial, .ref a_log, .ref a_shelves, .ref a_shown, .int k_shownCount, .int k_status, .int k_whyStep, .int k_whyReason, .int k_whyBarge, z_search, z_plan])), (a_chart, .inr (0, [.int k_chart_width, .int k_chart_height, .int k_chart_barges, .long k_chart_walls, .long k_chart_taken, .ref a_chart_kind, .ref a_chart_place, .ref a_chart_length, .ref a_chart_gate, .ref a_chart_across, .ref a_chart_wide, .ref a_chart_high, .ref a_chart_shape]))] U.heap ∧ va_K D vwCl (jT cT) U ∧ jNw U)) (vp_Si (fun r => r = r0)) 0 0 (fun _ => False) := by
  refine Met.ofW (cc := cX6_faultOfBarge) (maxL := 2) (ret := (some .int)) (by decide) rfl ?_
  intro p e s m args below meth c s₁ B hml hv
  obtain ⟨rfl, hP, hK, hN⟩ := hv
  have hx := B.exec
  have hb := B.bytes
  have hr := B.returns
  have hts := atoms_spec (ws := wsX6_faultOfBarge) B.pre
  have hown : s.vm.findClass RX6 = some m.cls := findClass_of_methodNamed B.named
  have hlocks := B.notSynchronized
  have hl := lv_entry ([.ref a_t, .int v1]) (n := 2) (Nat.le_of_ble_eq_true rfl)
  rw [lg_entry_eq]
  generalize (lg_sl ([.ref a_t, .int v1]) ++ List.replicate (2 - (lg_sl ([.ref a_t, .int v1])).length) Slot.unset).toArray = ls at hl ⊢
  have hl : lv_has ls 2 [(0, .ref a_t), (1, .int v1)] := hl
  unfold f_BargeBasin_faultOfBarge at hf
  refine lv_aload_n hx hb dX6_faultOfBarge_0 rfl (lv_at hl 0 rfl) ?_
  replace hf := ob_b hf
  obtain ⟨zr_1, hc_2, hf⟩ := hf
  refine vp_callSi (W.runV (As := []) (rest := []) ⟨hx, hb, hml, hown, hts⟩ (c_f_BargeBasin_hasNoBasin l D cT a_t a_lines a_chart a_trial a_log a_shelves a_shown a_chart_kind a_chart_place a_chart_length a_chart_gate a_chart_across a_chart_wide a_chart_high a_chart_shape z_search z_plan k_shownCount k_status k_whyStep k_whyReason k_whyBarge k_chart_width k_chart_height k_chart_barges k_chart_walls k_chart_taken _ hc_2) (cwV 0 hts gX6_faultOfBarge_X6_hasNoBasin rfl rfl rfl (by decide +kernel) ⟨Nat.le_of_ble_eq_true rfl, Nat.le_of_ble_eq_true rfl⟩) ⟨fun a U g mk q => by obtain ⟨q0, qP, qK, qN⟩ := q; exact ⟨q0, qP, va_K.moved (u := U) (U := U.calling g mk a) (Vm.Alike.refl U.vm) qK, jNw_same (u := U) (U := U.calling g mk a) rfl qN⟩, va_recv hK hP (ci := 6) (q0 := 0) rfl rfl, fun U hU hW => ⟨rfl, by rw [hU]; exact hP.sub [0, 1] rfl, va_K.moved hW.alike hK, jNw_warm hW hN⟩⟩ rfl rfl hl.1 rfl (lv_room (Nat.le_of_ble_eq_true rfl)) dX6_faultOfBarge_1 ⟨Nat.le_of_ble_eq_true rfl, Nat.le_of_ble_eq_true rfl⟩) (fun r_1 er_3 => ?_)
  subst er_3
  refine lv_if_eq (tgt := 9) hx hb dX6_faultOfBarge_4 (by decide) (fun c_4 => ?_) (fun c_4 => ?_)
  · replace hf := ob_pos c_4 hf
    refine lv_iload_n hx hb dX6_faultOfBarge_9 rfl (lv_at hl 1 rfl) ?_
    refine lv_if_lt (tgt := 24) hx hb dX6_faultOfBarge_10 (by decide) (fun c_5 => ?_) (fun c_5 => ?_)
    · replace hf := ob_pos c_5 hf
      refine lv_iconst (v := 2) hx hb dX6_faultOfBarge_24 (by decide) ?_
      refine lv_goto (tgt := 29) hx hb dX6_faultOfBarge_25 (by decide) ?_
      cases hf
      exact W.iret hx hb hr (fun t ht hW => ⟨_, rfl, rfl, ht⟩) (fun q h => by cases h) dX6_faultOfBarge_29
    · replace hf := ob_neg c_5 hf
      refine lv_iload_n hx hb dX6_faultOfBarge_13 rfl (lv_at hl 1 rfl) ?_
      refine lv_aload_n hx hb dX6_faultOfBarge_14 rfl (lv_at hl 0 rfl) ?_
      refine va_get (D := D) (ci := 6) (v := .ref a_chart) (C := RX6) (T := TX6) (N := 13) hx hb hts iw_wsX6_faultOfBarge_X6 hown hK hP 0 rfl rfl 1 (by decide) (hts (.fieldLink RX6 19 "BargeBasin" "chart" "LBargeBasin$Chart;") (List.mem_of_getElem? (i := 1) (by decide +kernel))) (fun _ h9 => h9) rfl dX6_faultOfBarge_15 ?_
      refine va_get (D := D) (ci := 0) (v := .int k_chart_barges) (C := RX0) (T := TX0) (N := 13) hx hb hts iw_wsX6_faultOfBarge_X0 hown hK hP 1 rfl rfl 2 (by decide) (hts (.fieldLink RX6 137 "BargeBasin$Chart" "barges" "I") (List.mem_of_getElem? (i := 2) (by decide +kernel))) (fun _ h9 => h9) rfl dX6_faultOfBarge_18 ?_
      refine lv_icmp_lt (tgt := 28) hx hb dX6_faultOfBarge_21 (by decide) (fun c_6 => ?_) (fun c_6 => ?_)
      · replace hf := ob_pos c_6 hf
        refine lv_iconst (v := 0) hx hb dX6_faultOfBarge_28 (by decide) ?_
        cases hf
        exact W.iret hx hb hr (fun t ht hW => ⟨_, rfl, rfl, ht⟩) (fun q h => by cases h) dX6_faultOfBarge_29
      · replace hf := ob_neg c_6 hf
        refine lv_iconst (v := 2) hx hb dX6_faultOfBarge_24 (by decide) ?_
        refine lv_goto (tgt := 29) hx hb dX6_faultOfBarge_25 (by decide) ?_
        cases hf
        exact W.iret hx hb hr (fun t ht hW => ⟨_, rfl, rfl, ht⟩) (fun q h => by cases h) dX6_faultOfBarge_29
  · replace hf := ob_neg c_4 hf
    refine lv_iconst (v := 1) hx hb dX6_faultOfBarge_7 (by decide) ?_
    cases hf
    exact W.iret hx hb hr (fun t ht hW => ⟨_, rfl, rfl, ht⟩) (fun q h => by cases h) dX6_faultOfBarge_8
theorem iw_wsX6_gate_X6 : ∀ w ∈ wsX60, w ∈ wsX6_gate := fun _ h => List.mem_cons_of_mem _ (List.mem_append_left _ (List.mem_append_left _ (List.mem_append_right _ h)))
theorem iw_wsX6_gate_X0 : ∀ w ∈ wsX00, w ∈ wsX6_gate := fun _ h => List.mem_cons_of_mem _ (List.mem_append_left _ (List.mem_append_right _ h))
theorem iw_wsX6_gate_X3 : ∀ w ∈ wsX30, w ∈ wsX6_gate := fun _ h => List.mem_cons_of_mem _ (List.mem_append_right _ h)
abbrev rm_BargeBasin_gate : Room := { frames := 2, cells := 0, slots := 0, locals := 48 }
set_option maxHeartbeats 4000000 in
set_option maxRecDepth 100000 in
theorem c_f_BargeBasin_gate (l : Launch) (D : va_G) (cT : Nat → ClassId) (sz : Nat) (a_t a_lines a_chart a_trial a_log a_shelves a_shown a_chart_kind a_chart_place a_chart_length a_chart_gate a_chart_across a_chart_wide a_chart_high a_chart_shape a_log_moves : Nat) (z_search z_plan : Value) (k_shownCount : Int32) (k_status : Int32) (k_whyStep : Int32) (k_whyReason : Int32) (k_whyBarge : Int32) (k_chart_width : Int32) (k_chart_height : Int32) (k_chart_barges : Int32) (k_chart_walls : Int64) (k_chart_taken : Int64) (k_chart_kind : Nat → Int32) (k_chart_place : Nat → Int32) (k_chart_gate : Nat → Int32) (k_chart_across : Nat → Int32) (k_chart_wide : Nat → Int32) (k_chart_high : Nat → Int32) (k_log_first : Int32) (k_log_done : Int32) (k_log_undone : Int32) (v1 : Int32) (v2 : Int32) (v3 : Int32) (r0 : Int32) (k_status₉ : Int32) (k_chart_gate₉ : Nat → Int32) (k_log_done₉ : Int32) (k_log_undone₉ : Int32) (hf : f_BargeBasin_gate v1 v2 v3 k_status k_chart_width k_chart_height k_chart_barges k_chart_kind k_chart_place k_chart_gate k_chart_across k_chart_wide k_chart_high k_log_done k_log_undone = some (r0, k_status₉, k_chart_gate₉, k_log_done₉, k_log_undone₉)) : Met l yX6_gate wsX6_gate rm_BargeBasin_gate (va_Pc [.ref a_t, .int v1, .int v2, .int v3] (fun U => U.heap.size = sz ∧ va_P D vwCl [(a_t, .inr (6, [.ref a_lines, .ref a_chart, .ref a_trial, .ref a_log, .ref a_shelves, .ref a_shown, .int k_shownCount, .int k_status, .int k_whyStep, .int k_whyReason, .int k_whyBarge, z_search, z_plan])), (a_chart, .inr (0, [.int k_chart_width, .int k_chart_height, .int k_chart_barges, .long k_chart_walls, .long k_chart_taken, .ref a_chart_kind, .ref a_chart_place, .ref a_chart_length, .ref a_chart_gate, .ref a_chart_across, .ref a_chart_wide, .ref a_chart_high, .ref a_chart_shape])), (a_chart_kind, .inl (cT 0, 12, .inl k_chart_kind)), (a_chart_place, .inl (cT 0, 12, .inl k_chart_place)), (a_chart_gate, .inl (cT 0, 12, .inl k_chart_gate)), (a_chart_across, .inl (cT 2, 12, .inl k_chart_across)), (a_chart_wide, .inl (cT 0, 12, .inl k_chart_wide)), (a_chart_high, .inl (cT 0, 12, .inl k_chart_high)), (a_log, .inr (3, [.ref a_log_moves, .int k_log_first, .int k_log_done, .int k_log_undone]))] U.heap ∧ va_K D vwCl (jT cT) U ∧ jNw U ∧ va_D (fun _ => True) [(a_t, .inr (6, [.ref a_lines, .ref a_chart, .ref a_trial, .ref a_log, .ref a_shelves, .ref a_shown, .int k_shownCount, .int k_status, .int k_whyStep, .int k_whyReason, .int k_whyBarge, z_search, z_plan])), (a_chart, .inr (0, [.int k_chart_width, .int k_chart_height, .int k_chart_barges, .long k_chart_walls, .long k_chart_taken, .ref a_chart_kind, .ref a_chart_place, .ref a_chart_length, .ref a_chart_gate, .ref a_chart_across, .ref a_chart_wide, .ref a_chart_high, .ref a_chart_shape])), (a_chart_kind, .inl (cT 0, 12, .inl k_chart_kind)), (a_chart_place, .inl (cT 0, 12, .inl k_chart_place)), (a_chart_gate, .inl (cT 0, 12, .inl k_chart_gate)), (a_chart_across, .inl (cT 2, 12, .inl k_chart_across)), (a_chart_wide, .inl (cT 0, 12, .inl k_chart_wide)), (a_chart_high, .inl (cT 0, 12, .inl k_chart_high)), (a_log, .inr (3, [.ref a_log_moves, .int k_log_first, .int k_log_done, .int k_log_undone]))])) (va_Qi (fun r (_ : Unit) => r = r0) (fun (_ : Unit) t => va_P D vwCl [(a_t, .inr (6, [.ref a_lines, .ref a_chart, .ref a_trial, .ref a_log, .ref a_shelves, .ref a_shown, .int k_shownCount, .int k_status₉, .int k_whyStep, .int k_whyReason, .int k_whyBarge, z_search, z_plan])), (a_chart, .inr (0, [.int k_chart_width, .int k_chart_height, .int k_chart_barges, .long k_chart_walls, .long k_chart_taken, .ref a_chart_kind, .ref a_chart_place, .ref a_chart_length, .ref a_chart_gate, .ref a_chart_across, .ref a_chart_wide, .ref a_chart_high, .ref a_chart_shape])), (a_chart_kind, .inl (cT 0, 12, .inl k_chart_kind)), (a_chart_place, .inl (cT 0, 12, .inl k_chart_place)), (a_chart_gate, .inl (cT 0, 12, .inl k_chart_gate₉)), (a_chart_across, .inl (cT 2, 12, .inl k_chart_across)), (a_chart_wide, .inl (cT 0, 12, .inl k_chart_wide)), (a_chart_high, .inl (cT 0, 12, .inl k_chart_high)), (a_log, .inr (3, [.ref a_log_moves, .int k_log_first, .int k_log_done₉, .int k_log_undone₉]))] t.heap ∧ va_K D vwCl (jT cT) t ∧ va_D (va_A [(a_t, .inr (6, [.ref a_lines, .ref a_chart, .ref a_trial, .ref a_log, .ref a_shelves, .ref a_shown, .int k_shownCount, .int k_status, .int k_whyStep, .int k_whyReason, .int k_whyBarge, z_search, z_plan])), (a_chart, .inr (0, [.int k_chart_width, .int k_chart_height, .int k_chart_barges, .long k_chart_walls, .long k_chart_taken, .ref a_chart_kind, .ref a_chart_place, .ref a_chart_length, .ref a_chart_gate, .ref a_chart_across, .ref a_chart_wide, .ref a_chart_high, .ref a_chart_shape])), (a_chart_kind, .inl (cT 0, 12, .inl k_chart_kind)), (a_chart_place, .inl (cT 0, 12, .inl k_chart_place)), (a_chart_gate, .inl (cT 0, 12, .inl k_chart_gate)), (a_chart_across, .inl (cT 2, 12, .inl k_chart_across)), (a_chart_wide, .inl (cT 0, 12, .inl k_chart_wide)), (a_chart_high, .inl (cT 0, 12, .inl k_chart_high)), (a_log, .inr (3, [.ref a_log_moves, .int k_log_first, .int k_log_done, .int k_log_undone]))] sz) [(a_t, .inr (6, [.ref a_lines, .ref a_chart, .ref a_trial, .ref a_log, .ref a_shelves, .ref a_shown, .int k_shownCount, .int k_status₉, .int k_whyStep, .int k_whyReason, .int k_whyBarge, z_search, z_plan])), (a_chart, .inr (0, [.int k_chart_width, .int k_chart_height, .int k_chart_barges, .long k_chart_walls, .long k_chart_taken, .ref a_chart_kind, .ref a_chart_place, .ref a_chart_length, .ref a_chart_gate, .ref a_chart_across, .ref a_chart_wide, .ref a_chart_high, .ref a_chart_shape])), (a_chart_kind, .inl (cT 0, 12, .inl k_chart_kind)), (a_chart_place, .inl (cT 0, 12, .inl k_chart_place)), (a_chart_gate, .inl (cT 0, 12, .inl k_chart_gate₉)), (a_chart_across, .inl (cT 2, 12, .inl k_chart_across)), (a_chart_wide, .inl (cT 0, 12, .inl k_chart_wide)), (a_chart_high, .inl (cT 0, 12, .inl k_chart_high)), (a_log, .inr (3, [.ref a_log_moves, .int k_log_first, .int k_log_done₉, .int k_log_undone₉]))]) (va_A [(a_t, .inr (6, [.ref a_lines, .ref a_chart, .ref a_trial, .ref a_log, .ref a_shelves, .ref a_shown, .int k_shownCount, .int k_status, .int k_whyStep, .int k_whyReason, .int k_whyBarge, z_search, z_plan])), (a_chart, .inr (0, [.int k_chart_width, .int k_chart_height, .int k_chart_barges, .long k_chart_walls, .long k_chart_taken, .ref a_chart_kind, .ref a_chart_place, .ref a_chart_length, .ref a_chart_gate, .ref a_chart_across, .ref a_chart_wide, .ref a_chart_high, .ref a_chart_shape])), (a_chart_kind, .inl (cT 0, 12, .inl k_chart_kind)), (a_chart_place, .inl (cT 0, 12, .inl k_chart_place)), (a_chart_gate, .inl (cT 0, 12, .inl k_chart_gate)), (a_chart_across, .inl (cT 2, 12, .inl k_chart_across)), (a_chart_wide, .inl (cT 0, 12, .inl k_chart_wide)), (a_chart_high, .inl (cT 0, 12, .inl k_chart_high)), (a_log, .inr (3, [.ref a_log_moves, .int k_log_first, .int k_log_done, .int k_log_undone]))] sz)) 0 0 (va_A [(a_t, .inr (6, [.ref a_lines, .ref a_chart, .ref a_trial, .ref a_log, .ref a_shelves, .ref a_shown, .int k_shownCount, .int k_status, .int k_whyStep, .int k_whyReason, .int k_whyBarge, z_search, z_plan])), (a_chart, .inr (0, [.int k_chart_width, .int k_chart_height, .int k_chart_barges, .long k_chart_walls, .long k_chart_taken, .ref a_chart_kind, .ref a_chart_place, .ref a_chart_length, .ref a_chart_gate, .ref a_chart_across, .ref a_chart_wide, .ref a_chart_high, .ref a_chart_shape])), (a_chart_kind, .inl (cT 0, 12, .inl k_chart_kind)), (a_chart_place, .inl (cT 0, 12, .inl k_chart_place)), (a_chart_gate, .inl (cT 0, 12, .inl k_chart_gate)), (a_chart_across, .inl (cT 2, 12, .inl k_chart_across)), (a_chart_wide, .inl (cT 0, 12, .inl k_chart_wide)), (a_chart_high, .inl (cT 0, 12, .inl k_chart_high)), (a_log, .inr (3, [.ref a_log_moves, .int k_log_first, .int k_log_done, .int k_log_undone]))] sz) := by
  refine Met.ofW (cc := cX6_gate) (maxL := 5) (ret := (some .boolean)) (by decide) rfl ?_
  intro p e s m args below meth c s₁ B hml hv
  obtain ⟨rfl, hsz, hP, hK, hN, hD0⟩ := hv
  have hx := B.exec
  have hb := B.bytes
  have hr := B.returns
  have hts := atoms_spec (ws := wsX6_gate) B.pre
  have hown : s.vm.findClass RX6 = some m.cls := findClass_of_methodNamed B.named
  have hlocks := B.notSynchronized
  subst hsz
  have hD := hD0.self (sz := s.heap.size)
  clear hD0
  generalize hAe : va_A [(a_t, .inr (6, [.ref a_lines, .ref a_chart, .ref a_trial, .ref a_log, .ref a_shelves, .ref a_shown, .int k_shownCount, .int k_status, .int k_whyStep, .int k_whyReason, .int k_whyBarge, z_search, z_plan])), (a_chart, .inr (0, [.int k_chart_width, .int k_chart_height, .int k_chart_barges, .long k_chart_walls, .long k_chart_taken, .ref a_chart_kind, .ref a_chart_place, .ref a_chart_length, .ref a_chart_gate, .ref a_chart_across, .ref a_chart_wide, .ref a_chart_high, .ref a_chart_shape])), (a_chart_kind, .inl (cT 0, 12, .inl k_chart_kind)), (a_chart_place, .inl (cT 0, 12, .inl k_chart_place)), (a_chart_gate, .inl (cT 0, 12, .inl k_chart_gate)), (a_chart_across, .inl (cT 2, 12, .inl k_chart_across)), (a_chart_wide, .inl (cT 0, 12, .inl k_chart_wide)), (a_chart_high, .inl (cT 0, 12, .inl k_chart_high)), (a_log, .inr (3, [.ref a_log_moves, .int k_log_first, .int k_log_done, .int k_log_undone]))] s.heap.size = A at hD ⊢
  have hA : ∀ q : Nat, s.heap.size ≤ q → A q := fun q h => by rw [← hAe]; exact Or.inr h
  clear hAe
  have hl := lv_entry ([.ref a_t, .int v1, .int v2, .int v3]) (n := 5) (Nat.le_of_ble_eq_true rfl)
  rw [lg_entry_eq]
  generalize (lg_sl ([.ref a_t, .int v1, .int v2, .int v3]) ++ List.replicate (5 - (lg_sl ([.ref a_t, .int v1, .int v2, .int v3])).length) Slot.unset).toArray = ls at hl ⊢
  have hl : lv_has ls 5 [(0, .ref a_t), (1, .int v1), (2, .int v2), (3, .int v3)] := hl
  refine j_start (A := A) hP (fun H locs hP hS => ?_)
  unfold f_BargeBasin_gate at hf
  refine lv_aload_n hx hb dX6_gate_0 rfl (lv_at hl 0 rfl) ?_
  refine lv_iload_n hx hb dX6_gate_1 rfl (lv_at hl 1 rfl) ?_
  replace hf := ob_b hf
  obtain ⟨zr_1, hc_2, hf⟩ := hf
  refine vp_callSi (W.runV (As := [.int v1]) (rest := []) ⟨hx, hb, hml, hown, hts⟩ (c_f_BargeBasin_faultOfBarge l D cT a_t a_lines a_chart a_trial a_log a_shelves a_shown a_chart_kind a_chart_place a_chart_length a_chart_gate a_chart_across a_chart_wide a_chart_high a_chart_shape z_search z_plan k_shownCount k_status k_whyStep k_whyReason k_whyBarge k_chart_width k_chart_height k_chart_barges k_chart_walls k_chart_taken v1 _ hc_2) (cwV 1 hts gX6_gate_X6_faultOfBarge rfl rfl rfl (by decide +kernel) ⟨Nat.le_of_ble_eq_true rfl, Nat.le_of_ble_eq_true rfl⟩) ⟨fun a U g mk q => by obtain ⟨q0, qP, qK, qN⟩ := q; exact ⟨q0, qP, va_K.moved (u := U) (U := U.calling g mk a) (Vm.Alike.refl U.vm) qK, jNw_same (u := U) (U := U.calling g mk a) rfl qN⟩, va_recv hK hP (ci := 6) (q0 := 0) rfl rfl, fun U hU hW => ⟨rfl, by rw [hU]; exact hP.sub [0, 1] rfl, va_K.moved hW.alike hK, jNw_warm hW hN⟩⟩ rfl rfl hl.1 rfl (lv_room (Nat.le_of_ble_eq_true rfl)) dX6_gate_2 ⟨Nat.le_of_ble_eq_true rfl, Nat.le_of_ble_eq_true rfl⟩) (fun r_1 er_3 => ?_)
  subst er_3
  refine lv_istore (lv' := [(4, .int r_1), (0, .ref a_t), (1, .int v1), (2, .int v2), (3, .int v3)]) hx hb dX6_gate_5 hl (by decide) rfl (fun ls hl => ?_)
  refine lv_iload hx hb dX6_gate_7 (lv_at hl 0 rfl) ?_
  refine lv_if_eq (tgt := 19) hx hb dX6_gate_9 (by decide) (fun c_4 => ?_) (fun c_4 => ?_)
  · replace hf := ob_pos c_4 hf
    refine lv_aload_n hx hb dX6_gate_19 rfl (lv_at hl 1 rfl) ?_
    refine lv_iload_n hx hb dX6_gate_20 rfl (lv_at hl 3 rfl) ?_
    refine lv_iload_n hx hb dX6_gate_21 rfl (lv_at hl 4 rfl) ?_
    replace hf := ob_b hf
    obtain ⟨zr_5, hc_6, hf⟩ := hf
    refine vp_callSi (W.runV (As := [.int v2, .int v3]) (rest := []) ⟨hx, hb, hml, hown, hts⟩ (c_f_BargeBasin_isNoField l D cT a_t a_lines a_chart a_trial a_log a_shelves a_shown a_chart_kind a_chart_place a_chart_length a_chart_gate a_chart_across a_chart_wide a_chart_high a_chart_shape z_search z_plan k_shownCount k_status k_whyStep k_whyReason k_whyBarge k_chart_width k_chart_height k_chart_barges k_chart_walls k_chart_taken v2 v3 _ hc_6) (cwV 2 hts gX6_gate_X6_isNoField rfl rfl rfl (by decide +kernel) ⟨Nat.le_of_ble_eq_true rfl, Nat.le_of_ble_eq_true rfl⟩) ⟨fun a U g mk q => by obtain ⟨q0, qP, qK, qN⟩ := q; exact ⟨q0, qP, va_K.moved (u := U) (U := U.calling g mk a) (Vm.Alike.refl U.vm) qK, jNw_same (u := U) (U := U.calling g mk a) rfl qN⟩, va_recv hK hP (ci := 6) (q0 := 0) rfl rfl, fun U hU hW => ⟨rfl, by rw [hU]; exact hP.sub [0, 1] rfl, va_K.moved hW.alike hK, jNw_warm hW hN⟩⟩ rfl rfl hl.1 rfl (lv_room (Nat.le_of_ble_eq_true rfl)) dX6_gate_22 ⟨Nat.le_of_ble_eq_true rfl, Nat.le_of_ble_eq_true rfl⟩) (fun r_5 er_7 => ?_)
    subst er_7
    refine lv_if_eq (tgt := 34) hx hb dX6_gate_25 (by decide) (fun c_8 => ?_) (fun c_8 => ?_)
    · replace hf := ob_pos c_8 hf
      refine lv_aload_n hx hb dX6_gate_34 rfl (lv_at hl 1 rfl) ?_
      refine va_get (D := D) (ci := 6) (v := .ref a_chart) (C := RX6) (T := TX6) (N := 13) hx hb hts iw_wsX6_gate_X6 hown hK hP 0 rfl rfl 1 (by decide) (hts (.fieldLink RX6 19 "BargeBasin" "chart" "LBargeBasin$Chart;") (List.mem_of_getElem? (i := 1) (by decide +kernel))) (fun _ h9 => h9) rfl dX6_gate_35 ?_
      refine va_get (D := D) (ci := 0) (v := .ref a_chart_kind) (C := RX0) (T := TX0) (N := 13) hx hb hts iw_wsX6_gate_X0 hown hK hP 1 rfl rfl 5 (by decide) (hts (.fieldLink RX6 150 "BargeBasin$Chart" "kind" "[I") (List.mem_of_getElem? (i := 2) (by decide +kernel))) (fun _ h9 => h9) rfl dX6_gate_38 ?_
      refine lv_iload_n hx hb dX6_gate_41 rfl (lv_at hl 2 rfl) ?_
      replace hf := ob_grd hf
      obtain ⟨hi_9, hf⟩ := hf
      refine va_iald hx hb hK hP 2 0 rfl rfl hi_9 dX6_gate_42 ?_
      refine lv_iconst (v := 5) hx hb dX6_gate_43 (by decide) ?_
      refine lv_icmp_eq (tgt := 53) hx hb dX6_gate_44 (by decide) (fun c_10 => ?_) (fun c_10 => ?_)
      · replace hf := ob_pos c_10 hf
        refine lv_aload_n hx hb dX6_gate_53 rfl (lv_at hl 1 rfl) ?_
        refine va_get (D := D) (ci := 6) (v := .ref a_chart) (C := RX6) (T := TX6) (N := 13) hx hb hts iw_wsX6_gate_X6 hown hK hP 0 rfl rfl 1 (by decide) (hts (.fieldLink RX6 19 "BargeBasin" "chart" "LBargeBasin$Chart;") (List.mem_of_getElem? (i := 1) (by decide +kernel))) (fun _ h9 => h9) rfl dX6_gate_54 ?_
        refine lv_iload_n hx hb dX6_gate_57 rfl (lv_at hl 2 rfl) ?_
        refine lv_iload_n hx hb dX6_gate_58 rfl (lv_at hl 3 rfl) ?_
        refine lv_iload_n hx hb dX6_gate_59 rfl (lv_at hl 4 rfl) ?_
        replace hf := ob_b hf
        obtain ⟨zr_11, hc_12, hf⟩ := hf
        refine vp_callSi (W.runV (As := [.int v1, .int v2, .int v3]) (rest := []) ⟨hx, hb, hml, hown, hts⟩ (c_f_Chart_isOnLine l D cT a_chart a_chart_kind a_chart_place a_chart_length a_chart_gate a_chart_across a_chart_wide a_chart_high a_chart_shape k_chart_width k_chart_height k_chart_barges k_chart_walls k_chart_taken k_chart_place k_chart_across k_chart_wide k_chart_high v1 v2 v3 _ hc_12) (cwV 3 hts gX6_gate_X0_isOnLine rfl rfl rfl (by decide +kernel) ⟨Nat.le_of_ble_eq_true rfl, Nat.le_of_ble_eq_true rfl⟩) ⟨fun a U g mk q => by obtain ⟨q0, qP, qK, qN⟩ := q; exact ⟨q0, qP, va_K.moved (u := U) (U := U.calling g mk a) (Vm.Alike.refl U.vm) qK, jNw_same (u := U) (U := U.calling g mk a) rfl qN⟩, va_recv hK hP (ci := 0) (q0 := 1) rfl rfl, fun U hU hW => ⟨rfl, by rw [hU]; exact hP.sub [1, 3, 5, 6, 7] rfl, va_K.moved hW.alike hK, jNw_warm hW hN⟩⟩ rfl rfl hl.1 rfl (lv_room (Nat.le_of_ble_eq_true rfl)) dX6_gate_60 ⟨Nat.le_of_ble_eq_true rfl, Nat.le_of_ble_eq_true rfl⟩) (fun r_11 er_13 => ?_)
        subst er_13
        refine lv_if_ne (tgt := 73) hx hb dX6_gate_63 (by decide) (fun c_14 => ?_) (fun c_14 => ?_)
        · replace hf := ob_neg c_14 hf
          refine lv_aload_n hx hb dX6_gate_73 rfl (lv_at hl 1 rfl) ?_
          refine va_get (D := D) (ci := 6) (v := .ref a_chart) (C := RX6) (T := TX6) (N := 13) hx hb hts iw_wsX6_gate_X6 hown hK hP 0 rfl rfl 1 (by decide) (hts (.fieldLink RX6 19 "BargeBasin" "chart" "LBargeBasin$Chart;") (List.mem_of_getElem? (i := 1) (by decide +kernel))) (fun _ h9 => h9) rfl dX6_gate_74 ?_
          refine va_get (D := D) (ci := 0) (v := .ref a_chart_gate) (C := RX0) (T := TX0) (N := 13) hx hb hts iw_wsX6_gate_X0 hown hK hP 1 rfl rfl 8 (by decide) (hts (.fieldLink RX6 158 "BargeBasin$Chart" "gate" "[I") (List.mem_of_getElem? (i := 3) (by decide +kernel))) (fun _ h9 => h9) rfl dX6_gate_77 ?_
          refine lv_iload_n hx hb dX6_gate_80 rfl (lv_at hl 2 rfl) ?_
          refine lv_bipush (v := 8) hx hb dX6_gate_81 (by decide) ?_
          refine lv_iload_n hx hb dX6_gate_83 rfl (lv_at hl 4 rfl) ?_
          refine lv_imul hx hb dX6_gate_84 ?_
          refine lv_iload_n hx hb dX6_gate_85 rfl (lv_at hl 3 rfl) ?_
          refine lv_iadd hx hb dX6_gate_86 ?_
          refine lv_topi (fun w_15 ew_15 => ?_)
          replace hf := ob_nm ew_15 hf
          replace hf := ob_grd hf
          obtain ⟨hi_16, hf⟩ := hf
          refine va_iast hx hb hK hP hD hS 4 0 rfl rfl hi_16 dX6_gate_87 (fun H locs hP hD hS => ?_)
          replace hP : va_P D vwCl [(a_t, .inr (6, [.ref a_lines, .ref a_chart, .ref a_trial, .ref a_log, .ref a_shelves, .ref a_shown, .int k_shownCount, .int k_status, .int k_whyStep, .int k_whyReason, .int k_whyBarge, z_search, z_plan])), (a_chart, .inr (0, [.int k_chart_width, .int k_chart_height, .int k_chart_barges, .long k_chart_walls, .long k_chart_taken, .ref a_chart_kind, .ref a_chart_place, .ref a_chart_length, .ref a_chart_gate, .ref a_chart_across, .ref a_chart_wide, .ref a_chart_high, .ref a_chart_shape])), (a_chart_kind, .inl (cT 0, 12, .inl k_chart_kind)), (a_chart_place, .inl (cT 0, 12, .inl k_chart_place)), (a_chart_gate, .inl (cT 0, 12, .inl (upd k_chart_gate v1.toNatClampNeg w_15))), (a_chart_across, .inl (cT 2, 12, .inl k_chart_across)), (a_chart_wide, .inl (cT 0, 12, .inl k_chart_wide)), (a_chart_high, .inl (cT 0, 12, .inl k_chart_high)), (a_log, .inr (3, [.ref a_log_moves, .int k_log_first, .int k_log_done, .int k_log_undone]))] H := hP
          replace hD : va_D A [(a_t, .inr (6, [.ref a_lines, .ref a_chart, .ref a_trial, .ref a_log, .ref a_shelves, .ref a_shown, .int k_shownCount, .int k_status, .int k_whyStep, .int k_whyReason, .int k_whyBarge, z_search, z_plan])), (a_chart, .inr (0, [.int k_chart_width, .int k_chart_height, .int k_chart_barges, .long k_chart_walls, .long k_chart_taken, .ref a_chart_kind, .ref a_chart_place, .ref a_chart_length, .ref a_chart_gate, .ref a_chart_across, .ref a_chart_wide, .ref a_chart_high, .ref a_chart_shape])), (a_chart_kind, .inl (cT 0, 12, .inl k_chart_kind)), (a_chart_place, .inl (cT 0, 12, .inl k_chart_place)), (a_chart_gate, .inl (cT 0, 12, .inl (upd k_chart_gate v1.toNatClampNeg w_15))), (a_chart_across, .inl (cT 2, 12, .inl k_chart_across)), (a_chart_wide, .inl (cT 0, 12, .inl k_chart_wide)), (a_chart_high, .inl (cT 0, 12, .inl k_chart_high)), (a_log, .inr (3, [.ref a_log_moves, .int k_log_first, .int k_log_done, .int k_log_undone]))] := hD
          refine lv_aload_n hx hb dX6_gate_88 rfl (lv_at hl 1 rfl) ?_
          replace hf := ob_b hf
          obtain ⟨⟨zr_17, k_status_18, k_log_done_19, k_log_undone_20⟩, hc_21, hf⟩ := hf
          replace hf := ob_un4 hf
          have hPc := hP.sub (ws' := [(a_t, .inr (6, [.ref a_lines, .ref a_chart, .ref a_trial, .ref a_log, .ref a_shelves, .ref a_shown, .int k_shownCount, .int k_status, .int k_whyStep, .int k_whyReason, .int k_whyBarge, z_search, z_plan])), (a_log, .inr (3, [.ref a_log_moves, .int k_log_first, .int k_log_done, .int k_log_undone]))]) [0, 8] rfl
          have hDc := hD.sub (ws' := [(a_t, .inr (6, [.ref a_lines, .ref a_chart, .ref a_trial, .ref a_log, .ref a_shelves, .ref a_shown, .int k_shownCount, .int k_status, .int k_whyStep, .int k_whyReason, .int k_whyBarge, z_search, z_plan])), (a_log, .inr (3, [.ref a_log_moves, .int k_log_first, .int k_log_done, .int k_log_undone]))]) [0, 8] (by decide) rfl
          have hFc := va_free (wc := [(a_t, .inr (6, [.ref a_lines, .ref a_chart, .ref a_trial, .ref a_log, .ref a_shelves, .ref a_shown, .int k_shownCount, .int k_status, .int k_whyStep, .int k_whyReason, .int k_whyBarge, z_search, z_plan])), (a_log, .inr (3, [.ref a_log_moves, .int k_log_first, .int k_log_done, .int k_log_undone]))]) hD hS hA [0, 8] rfl
          refine va_calli (va_runV (As := []) (rest := []) ⟨hx, hb, hml, hown, hts⟩ (c_f_BargeBasin_changed l D cT H.size a_t a_lines a_chart a_trial a_log a_shelves a_shown a_log_moves z_search z_plan k_shownCount k_status k_whyStep k_whyReason k_whyBarge k_log_first k_log_done k_log_undone _ _ _ _ hc_21) (cwV 0 hts gX6_gate_X6_changed rfl rfl rfl (by decide +kernel) ⟨Nat.le_of_ble_eq_true rfl, Nat.le_of_ble_eq_true rfl⟩) ⟨fun a U g mk q => by obtain ⟨q0, q1, qP, qK, qN, qD⟩ := q; exact ⟨q0, q1, qP, va_K.moved (u := U) (U := U.calling g mk a) (Vm.Alike.refl U.vm) qK, jNw_same (u := U) (U := U.calling g mk a) rfl qN, qD⟩, va_recv hK hP (ci := 6) (q0 := 0) rfl rfl, fun U hU hW => ⟨rfl, by rw [hU], by rw [hU]; exact hPc, va_K.moved hW.alike hK, jNw_warm hW hN, hDc.weaken (fun _ _ _ _ => trivial)⟩⟩ rfl rfl hl.1 rfl (lv_room (Nat.le_of_ble_eq_true rfl)) dX6_gate_89 ⟨Nat.le_of_ble_eq_true rfl, Nat.le_of_ble_eq_true rfl⟩) hS (fun q _ h => hFc q h) hFc (fun r_17 u t H1 locs ht hvm er_22 hB hz1 hk1 hS => ?_)
          subst er_22
          obtain ⟨hP1, hK1, hD1⟩ := hB
          rw [ht] at hP1
          have hPD := va_join (wr := [(a_chart, .inr (0, [.int k_chart_width, .int k_chart_height, .int k_chart_barges, .long k_chart_walls, .long k_chart_taken, .ref a_chart_kind, .ref a_chart_place, .ref a_chart_length, .ref a_chart_gate, .ref a_chart_across, .ref a_chart_wide, .ref a_chart_high, .ref a_chart_shape])), (a_chart_kind, .inl (cT 0, 12, .inl k_chart_kind)), (a_chart_place, .inl (cT 0, 12, .inl k_chart_place)), (a_chart_gate, .inl (cT 0, 12, .inl (upd k_chart_gate v1.toNatClampNeg w_15))), (a_chart_across, .inl (cT 2, 12, .inl k_chart_across)), (a_chart_wide, .inl (cT 0, 12, .inl k_chart_wide)), (a_chart_high, .inl (cT 0, 12, .inl k_chart_high))]) (w1 := [(a_t, .inr (6, [.ref a_lines, .ref a_chart, .ref a_trial, .ref a_log, .ref a_shelves, .ref a_shown, .int k_shownCount, .int k_status_18, .int k_whyStep, .int k_whyReason, .int k_whyBarge, z_search, z_plan])), (a_log, .inr (3, [.ref a_log_moves, .int k_log_first, .int k_log_done_19, .int k_log_undone_20]))]) hP hD [0, 8] [1, 2, 3, 4, 5, 6, 7] rfl rfl (by decide) (by decide) hk1 hFc hP1 hD1
          clear hP hD
          obtain ⟨hP, hD⟩ := hPD
          replace hP := hP.sub (ws' := [(a_t, .inr (6, [.ref a_lines, .ref a_chart, .ref a_trial, .ref a_log, .ref a_shelves, .ref a_shown, .int k_shownCount, .int k_status_18, .int k_whyStep, .int k_whyReason, .int k_whyBarge, z_search, z_plan])), (a_chart, .inr (0, [.int k_chart_width, .int k_chart_height, .int k_chart_barges, .long k_chart_walls, .long k_chart_taken, .ref a_chart_kind, .ref a_chart_place, .ref a_chart_length, .ref a_chart_gate, .ref a_chart_across, .ref a_chart_wide, .ref a_chart_high, .ref a_chart_shape])), (a_chart_kind, .inl (cT 0, 12, .inl k_chart_kind)), (a_chart_place, .inl (cT 0, 12, .inl k_chart_place)), (a_chart_gate, .inl (cT 0, 12, .inl (upd k_chart_gate v1.toNatClampNeg w_15))), (a_chart_across, .inl (cT 2, 12, .inl k_chart_across)), (a_chart_wide, .inl (cT 0, 12, .inl k_chart_wide)), (a_chart_high, .inl (cT 0, 12, .inl k_chart_high)), (a_log, .inr (3, [.ref a_log_moves, .int k_log_first, .int k_log_done_19, .int k_log_undone_20]))]) [7, 0, 1, 2, 3, 4, 5, 6, 8] rfl
          replace hD := hD.sub (ws' := [(a_t, .inr (6, [.ref a_lines, .ref a_chart, .ref a_trial, .ref a_log, .ref a_shelves, .ref a_shown, .int k_shownCount, .int k_status_18, .int k_whyStep, .int k_whyReason, .int k_whyBarge, z_search, z_plan])), (a_chart, .inr (0, [.int k_chart_width, .int k_chart_height, .int k_chart_barges, .long k_chart_walls, .long k_chart_taken, .ref a_chart_kind, .ref a_chart_place, .ref a_chart_length, .ref a_chart_gate, .ref a_chart_across, .ref a_chart_wide, .ref a_chart_high, .ref a_chart_shape])), (a_chart_kind, .inl (cT 0, 12, .inl k_chart_kind)), (a_chart_place, .inl (cT 0, 12, .inl k_chart_place)), (a_chart_gate, .inl (cT 0, 12, .inl (upd k_chart_gate v1.toNatClampNeg w_15))), (a_chart_across, .inl (cT 2, 12, .inl k_chart_across)), (a_chart_wide, .inl (cT 0, 12, .inl k_chart_wide)), (a_chart_high, .inl (cT 0, 12, .inl k_chart_high)), (a_log, .inr (3, [.ref a_log_moves, .int k_log_first, .int k_log_done_19, .int k_log_undone_20]))]) [7, 0, 1, 2, 3, 4, 5, 6, 8] (by decide) rfl
          clear hPc hDc hFc hP1 hK1 hD1 hk1 hz1
          generalize H1 = H at hP hS ⊢
          replace hf := ob_bool hf
          obtain ⟨hz_23, hf⟩ := hf
          replace hf := ob_t5 hf
          obtain ⟨ee0, ee1, ee2, ee3, ee4⟩ := hf
          subst ee0
          subst ee1
          subst ee2
          subst ee3
          subst ee4
          exact W.zret hx hb hr hz_23 (fun t ht hW => ⟨⟨_, (), rfl, rfl, by rw [ht]; exact hP, va_K.moved hW.alike hK, hD⟩, hS.F ht⟩) hS.2.2 dX6_gate_92
        · replace hf := ob_pos c_14 hf
          refine lv_aload_n hx hb dX6_gate_66 rfl (lv_at hl 1 rfl) ?_
          refine lv_bipush (v := 7) hx hb dX6_gate_67 (by decide) ?_
          replace hf := ob_b hf
          obtain ⟨⟨zr_24, k_status_25⟩, hc_26, hf⟩ := hf
          replace hf := ob_un2 hf
          have hPc := hP.sub (ws' := [(a_t, .inr (6, [.ref a_lines, .ref a_chart, .ref a_trial, .ref a_log, .ref a_shelves, .ref a_shown, .int k_shownCount, .int k_status, .int k_whyStep, .int k_whyReason, .int k_whyBarge, z_search, z_plan]))]) [0] rfl
          have hDc := hD.sub (ws' := [(a_t, .inr (6, [.ref a_lines, .ref a_chart, .ref a_trial, .ref a_log, .ref a_shelves, .ref a_shown, .int k_shownCount, .int k_status, .int k_whyStep, .int k_whyReason, .int k_whyBarge, z_search, z_plan]))]) [0] (by decide) rfl
          have hFc := va_free (wc := [(a_t, .inr (6, [.ref a_lines, .ref a_chart, .ref a_trial, .ref a_log, .ref a_shelves, .ref a_shown, .int k_shownCount, .int k_status, .int k_whyStep, .int k_whyReason, .int k_whyBarge, z_search, z_plan]))]) hD hS hA [0] rfl
          refine va_calli (va_runV (As := [.int ((7 : Int32))]) (rest := []) ⟨hx, hb, hml, hown, hts⟩ (c_f_BargeBasin_deny l D cT H.size a_t a_lines a_chart a_trial a_log a_shelves a_shown z_search z_plan k_shownCount k_status k_whyStep k_whyReason k_whyBarge ((7 : Int32)) _ _ hc_26) (cwV 1 hts gX6_gate_X6_deny rfl rfl rfl (by decide +kernel) ⟨Nat.le_of_ble_eq_true rfl, Nat.le_of_ble_eq_true rfl⟩) ⟨fun a U g mk q => by obtain ⟨q0, q1, qP, qK, qN, qD⟩ := q; exact ⟨q0, q1, qP, va_K.moved (u := U) (U := U.calling g mk a) (Vm.Alike.refl U.vm) qK, jNw_same (u := U) (U := U.calling g mk a) rfl qN, qD⟩, va_recv hK hP (ci := 6) (q0 := 0) rfl rfl, fun U hU hW => ⟨rfl, by rw [hU], by rw [hU]; exact hPc, va_K.moved hW.alike hK, jNw_warm hW hN, hDc.weaken (fun _ _ _ _ => trivial)⟩⟩ rfl rfl hl.1 rfl (lv_room (Nat.le_of_ble_eq_true rfl)) dX6_gate_69 ⟨Nat.le_of_ble_eq_true rfl, Nat.le_of_ble_eq_true rfl⟩) hS (fun q _ h => hFc q h) hFc (fun r_24 u t H1 locs ht hvm er_27 hB hz1 hk1 hS => ?_)
          subst er_27
          obtain ⟨hP1, hK1, hD1⟩ := hB
          rw [ht] at hP1
          have hPD := va_join (wr := [(a_chart, .inr (0, [.int k_chart_width, .int k_chart_height, .int k_chart_barges, .long k_chart_walls, .long k_chart_taken, .ref a_chart_kind, .ref a_chart_place, .ref a_chart_length, .ref a_chart_gate, .ref a_chart_across, .ref a_chart_wide, .ref a_chart_high, .ref a_chart_shape])), (a_chart_kind, .inl (cT 0, 12, .inl k_chart_kind)), (a_chart_place, .inl (cT 0, 12, .inl k_chart_place)), (a_chart_gate, .inl (cT 0, 12, .inl k_chart_gate)), (a_chart_across, .inl (cT 2, 12, .inl k_chart_across)), (a_chart_wide, .inl (cT 0, 12, .inl k_chart_wide)), (a_chart_high, .inl (cT 0, 12, .inl k_chart_high)), (a_log, .inr (3, [.ref a_log_moves, .int k_log_first, .int k_log_done, .int k_log_undone]))]) (w1 := [(a_t, .inr (6, [.ref a_lines, .ref a_chart, .ref a_trial, .ref a_log, .ref a_shelves, .ref a_shown, .int k_shownCount, .int k_status_25, .int k_whyStep, .int k_whyReason, .int k_whyBarge, z_search, z_plan]))]) hP hD [0] [1, 2, 3, 4, 5, 6, 7, 8] rfl rfl (by decide) (by decide) hk1 hFc hP1 hD1
          clear hP hD
          obtain ⟨hP, hD⟩ := hPD
          replace hP := hP.sub (ws' := [(a_t, .inr (6, [.ref a_lines, .ref a_chart, .ref a_trial, .ref a_log, .ref a_shelves, .ref a_shown, .int k_shownCount, .int k_status_25, .int k_whyStep, .int k_whyReason, .int k_whyBarge, z_search, z_plan])), (a_chart, .inr (0, [.int k_chart_width, .int k_chart_height, .int k_chart_barges, .long k_chart_walls, .long k_chart_taken, .ref a_chart_kind, .ref a_chart_place, .ref a_chart_length, .ref a_chart_gate, .ref a_chart_across, .ref a_chart_wide, .ref a_chart_high, .ref a_chart_shape])), (a_chart_kind, .inl (cT 0, 12, .inl k_chart_kind)), (a_chart_place, .inl (cT 0, 12, .inl k_chart_place)), (a_chart_gate, .inl (cT 0, 12, .inl k_chart_gate)), (a_chart_across, .inl (cT 2, 12, .inl k_chart_across)), (a_chart_wide, .inl (cT 0, 12, .inl k_chart_wide)), (a_chart_high, .inl (cT 0, 12, .inl k_chart_high)), (a_log, .inr (3, [.ref a_log_moves, .int k_log_first, .int k_log_done, .int k_log_undone]))]) [8, 0, 1, 2, 3, 4, 5, 6, 7] rfl
          replace hD := hD.sub (ws' := [(a_t, .inr (6, [.ref a_lines, .ref a_chart, .ref a_trial, .ref a_log, .ref a_shelves, .ref a_shown, .int k_shownCount, .int k_status_25, .int k_whyStep, .int k_whyReason, .int k_whyBarge, z_search, z_plan])), (a_chart, .inr (0, [.int k_chart_width, .int k_chart_height, .int k_chart_barges, .long k_chart_walls, .long k_chart_taken, .ref a_chart_kind, .ref a_chart_place, .ref a_chart_length, .ref a_chart_gate, .ref a_chart_across, .ref a_chart_wide, .ref a_chart_high, .ref a_chart_shape])), (a_chart_kind, .inl (cT 0, 12, .inl k_chart_kind)), (a_chart_place, .inl (cT 0, 12, .inl k_chart_place)), (a_chart_gate, .inl (cT 0, 12, .inl k_chart_gate)), (a_chart_across, .inl (cT 2, 12, .inl k_chart_across)), (a_chart_wide, .inl (cT 0, 12, .inl k_chart_wide)), (a_chart_high, .inl (cT 0, 12, .inl k_chart_high)), (a_log, .inr (3, [.ref a_log_moves, .int k_log_first, .int k_log_done, .int k_log_undone]))]) [8, 0, 1, 2, 3, 4, 5, 6, 7] (by decide) rfl
          clear hPc hDc hFc hP1 hK1 hD1 hk1 hz1
          generalize H1 = H at hP hS ⊢
          replace hf := ob_bool hf
          obtain ⟨hz_28, hf⟩ := hf
          replace hf := ob_t5 hf
          obtain ⟨ee0, ee1, ee2, ee3, ee4⟩ := hf
          subst ee0
          subst ee1
          subst ee2
          subst ee3
          subst ee4
          exact W.zret hx hb hr hz_28 (fun t ht hW => ⟨⟨_, (), rfl, rfl, by rw [ht]; exact hP, va_K.moved hW.alike hK, hD⟩, hS.F ht⟩) hS.2.2 dX6_gate_72
      · replace hf := ob_neg c_10 hf
        refine lv_aload_n hx hb dX6_gate_47 rfl (lv_at hl 1 rfl) ?_
        refine lv_iconst (v := 5) hx hb dX6_gate_48 (by decide) ?_
        replace hf := ob_b hf
        obtain ⟨⟨zr_29, k_status_30⟩, hc_31, hf⟩ := hf
        replace hf := ob_un2 hf
        have hPc := hP.sub (ws' := [(a_t, .inr (6, [.ref a_lines, .ref a_chart, .ref a_trial, .ref a_log, .ref a_shelves, .ref a_shown, .int k_shownCount, .int k_status, .int k_whyStep, .int k_whyReason, .int k_whyBarge, z_search, z_plan]))]) [0] rfl
        have hDc := hD.sub (ws' := [(a_t, .inr (6, [.ref a_lines, .ref a_chart, .ref a_trial, .ref a_log, .ref a_shelves, .ref a_shown, .int k_shownCount, .int k_status, .int k_whyStep, .int k_whyReason, .int k_whyBarge, z_search, z_plan]))]) [0] (by decide) rfl
        have hFc := va_free (wc := [(a_t, .inr (6, [.ref a_lines, .ref a_chart, .ref a_trial, .ref a_log, .ref a_shelves, .ref a_shown, .int k_shownCount, .int k_status, .int k_whyStep, .int k_whyReason, .int k_whyBarge, z_search, z_plan]))]) hD hS hA [0] rfl
        refine va_calli (va_runV (As := [.int ((5 : Int32))]) (rest := []) ⟨hx, hb, hml, hown, hts⟩ (c_f_BargeBasin_deny l D cT H.size a_t a_lines a_chart a_trial a_log a_shelves a_shown z_search z_plan k_shownCount k_status k_whyStep k_whyReason k_whyBarge ((5 : Int32)) _ _ hc_31) (cwV 1 hts gX6_gate_X6_deny rfl rfl rfl (by decide +kernel) ⟨Nat.le_of_ble_eq_true rfl, Nat.le_of_ble_eq_true rfl⟩) ⟨fun a U g mk q => by obtain ⟨q0, q1, qP, qK, qN, qD⟩ := q; exact ⟨q0, q1, qP, va_K.moved (u := U) (U := U.calling g mk a) (Vm.Alike.refl U.vm) qK, jNw_same (u := U) (U := U.calling g mk a) rfl qN, qD⟩, va_recv hK hP (ci := 6) (q0 := 0) rfl rfl, fun U hU hW => ⟨rfl, by rw [hU], by rw [hU]; exact hPc, va_K.moved hW.alike hK, jNw_warm hW hN, hDc.weaken (fun _ _ _ _ => trivial)⟩⟩ rfl rfl hl.1 rfl (lv_room (Nat.le_of_ble_eq_true rfl)) dX6_gate_49 ⟨Nat.le_of_ble_eq_true rfl, Nat.le_of_ble_eq_true rfl⟩) hS (fun q _ h => hFc q h) hFc (fun r_29 u t H1 locs ht hvm er_32 hB hz1 hk1 hS => ?_)
        subst er_32
        obtain ⟨hP1, hK1, hD1⟩ := hB
        rw [ht] at hP1
        have hPD := va_join (wr := [(a_chart, .inr (0, [.int k_chart_width, .int k_chart_height, .int k_chart_barges, .long k_chart_walls, .long k_chart_taken, .ref a_chart_kind, .ref a_chart_place, .ref a_chart_length, .ref a_chart_gate, .ref a_chart_across, .ref a_chart_wide, .ref a_chart_high, .ref a_chart_shape])), (a_chart_kind, .inl (cT 0, 12, .inl k_chart_kind)), (a_chart_place, .inl (cT 0, 12, .inl k_chart_place)), (a_chart_gate, .inl (cT 0, 12, .inl k_chart_gate)), (a_chart_across, .inl (cT 2, 12, .inl k_chart_across)), (a_chart_wide, .inl (cT 0, 12, .inl k_chart_wide)), (a_chart_high, .inl (cT 0, 12, .inl k_chart_high)), (a_log, .inr (3, [.ref a_log_moves, .int k_log_first, .int k_log_done, .int k_log_undone]))]) (w1 := [(a_t, .inr (6, [.ref a_lines, .ref a_chart, .ref a_trial, .ref a_log, .ref a_shelves, .ref a_shown, .int k_shownCount, .int k_status_30, .int k_whyStep, .int k_whyReason, .int k_whyBarge, z_search, z_plan]))]) hP hD [0] [1, 2, 3, 4, 5, 6, 7, 8] rfl rfl (by decide) (by decide) hk1 hFc hP1 hD1
        clear hP hD
        obtain ⟨hP, hD⟩ := hPD
        replace hP := hP.sub (ws' := [(a_t, .inr (6, [.ref a_lines, .ref a_chart, .ref a_trial, .ref a_log, .ref a_shelves, .ref a_shown, .int k_shownCount, .int k_status_30, .int k_whyStep, .int k_whyReason, .int k_whyBarge, z_search, z_plan])), (a_chart, .inr (0, [.int k_chart_width, .int k_chart_height, .int k_chart_barges, .long k_chart_walls, .long k_chart_taken, .ref a_chart_kind, .ref a_chart_place, .ref a_chart_length, .ref a_chart_gate, .ref a_chart_across, .ref a_chart_wide, .ref a_chart_high, .ref a_chart_shape])), (a_chart_kind, .inl (cT 0, 12, .inl k_chart_kind)), (a_chart_place, .inl (cT 0, 12, .inl k_chart_place)), (a_chart_gate, .inl (cT 0, 12, .inl k_chart_gate)), (a_chart_across, .inl (cT 2, 12, .inl k_chart_across)), (a_chart_wide, .inl (cT 0, 12, .inl k_chart_wide)), (a_chart_high, .inl (cT 0, 12, .inl k_chart_high)), (a_log, .inr (3, [.ref a_log_moves, .int k_log_first, .int k_log_done, .int k_log_undone]))]) [8, 0, 1, 2, 3, 4, 5, 6, 7] rfl
        replace hD := hD.sub (ws' := [(a_t, .inr (6, [.ref a_lines, .ref a_chart, .ref a_trial, .ref a_log, .ref a_shelves, .ref a_shown, .int k_shownCount, .int k_status_30, .int k_whyStep, .int k_whyReason, .int k_whyBarge, z_search, z_plan])), (a_chart, .inr (0, [.int k_chart_width, .int k_chart_height, .int k_chart_barges, .long k_chart_walls, .long k_chart_taken, .ref a_chart_kind, .ref a_chart_place, .ref a_chart_length, .ref a_chart_gate, .ref a_chart_across, .ref a_chart_wide, .ref a_chart_high, .ref a_chart_shape])), (a_chart_kind, .inl (cT 0, 12, .inl k_chart_kind)), (a_chart_place, .inl (cT 0, 12, .inl k_chart_place)), (a_chart_gate, .inl (cT 0, 12, .inl k_chart_gate)), (a_chart_across, .inl (cT 2, 12, .inl k_chart_across)), (a_chart_wide, .inl (cT 0, 12, .inl k_chart_wide)), (a_chart_high, .inl (cT 0, 12, .inl k_chart_high)), (a_log, .inr (3, [.ref a_log_moves, .int k_log_first, .int k_log_done, .int k_log_undone]))]) [8, 0, 1, 2, 3, 4, 5, 6, 7] (by decide) rfl
        clear hPc hDc hFc hP1 hK1 hD1 hk1 hz1
        generalize H1 = H at hP hS ⊢
        replace hf := ob_bool hf
        obtain ⟨hz_33, hf⟩ := hf
        replace hf := ob_t5 hf
        obtain ⟨ee0, ee1, ee2, ee3, ee4⟩ := hf
        subst ee0
        subst ee1
        subst ee2
        subst ee3
        subst ee4
        exact W.zret hx hb hr hz_33 (fun t ht hW => ⟨⟨_, (), rfl, rfl, by rw [ht]; exact hP, va_K.moved hW.alike hK, hD⟩, hS.F ht⟩) hS.2.2 dX6_gate_52
    · replace hf := ob_neg c_8 hf
      refine lv_aload_n hx hb dX6_gate_28 rfl (lv_at hl 1 rfl) ?_
      refine lv_iconst (v := 2) hx hb dX6_gate_29 (by decide) ?_
      replace hf := ob_b hf
      obtain ⟨⟨zr_34, k_status_35⟩, hc_36, hf⟩ := hf
      replace hf := ob_un2 hf
      have hPc := hP.sub (ws' := [(a_t, .inr (6, [.ref a_lines, .ref a_chart, .ref a_trial, .ref a_log, .ref a_shelves, .ref a_shown, .int k_shownCount, .int k_status, .int k_whyStep, .int k_whyReason, .int k_whyBarge, z_search, z_plan]))]) [0] rfl
      have hDc := hD.sub (ws' := [(a_t, .inr (6, [.ref a_lines, .ref a_chart, .ref a_trial, .ref a_log, .ref a_shelves, .ref a_shown, .int k_shownCount, .int k_status, .int k_whyStep, .int k_whyReason, .int k_whyBarge, z_search, z_plan]))]) [0] (by decide) rfl
      have hFc := va_free (wc := [(a_t, .inr (6, [.ref a_lines, .ref a_chart, .ref a_trial, .ref a_log, .ref a_shelves, .ref a_shown, .int k_shownCount, .int k_status, .int k_whyStep, .int k_whyReason, .int k_whyBarge, z_search, z_plan]))]) hD hS hA [0] rfl
      refine va_calli (va_runV (As := [.int ((2 : Int32))]) (rest := []) ⟨hx, hb, hml, hown, hts⟩ (c_f_BargeBasin_deny l D cT H.size a_t a_lines a_chart a_trial a_log a_shelves a_shown z_search z_plan k_shownCount k_status k_whyStep k_whyReason k_whyBarge ((2 : Int32)) _ _ hc_36) (cwV 1 hts gX6_gate_X6_deny rfl rfl rfl (by decide +kernel) ⟨Nat.le_of_ble_eq_true rfl, Nat.le_of_ble_eq_true rfl⟩) ⟨fun a U g mk q => by obtain ⟨q0, q1, qP, qK, qN, qD⟩ := q; exact ⟨q0, q1, qP, va_K.moved (u := U) (U := U.calling g mk a) (Vm.Alike.refl U.vm) qK, jNw_same (u := U) (U := U.calling g mk a) rfl qN, qD⟩, va_recv hK hP (ci := 6) (q0 := 0) rfl rfl, fun U hU hW => ⟨rfl, by rw [hU], by rw [hU]; exact hPc, va_K.moved hW.alike hK, jNw_warm hW hN, hDc.weaken (fun _ _ _ _ => trivial)⟩⟩ rfl rfl hl.1 rfl (lv_room (Nat.le_of_ble_eq_true rfl)) dX6_gate_30 ⟨Nat.le_of_ble_eq_true rfl, Nat.le_of_ble_eq_true rfl⟩) hS (fun q _ h => hFc q h) hFc (fun r_34 u t H1 locs ht hvm er_37 hB hz1 hk1 hS => ?_)
      subst er_37
      obtain ⟨hP1, hK1, hD1⟩ := hB
      rw [ht] at hP1
      have hPD := va_join (wr := [(a_chart, .inr (0, [.int k_chart_width, .int k_chart_height, .int k_chart_barges, .long k_chart_walls, .long k_chart_taken, .ref a_chart_kind, .ref a_chart_place, .ref a_chart_length, .ref a_chart_gate, .ref a_chart_across, .ref a_chart_wide, .ref a_chart_high, .ref a_chart_shape])), (a_chart_kind, .inl (cT 0, 12, .inl k_chart_kind)), (a_chart_place, .inl (cT 0, 12, .inl k_chart_place)), (a_chart_gate, .inl (cT 0, 12, .inl k_chart_gate)), (a_chart_across, .inl (cT 2, 12, .inl k_chart_across)), (a_chart_wide, .inl (cT 0, 12, .inl k_chart_wide)), (a_chart_high, .inl (cT 0, 12, .inl k_chart_high)), (a_log, .inr (3, [.ref a_log_moves, .int k_log_first, .int k_log_done, .int k_log_undone]))]) (w1 := [(a_t, .inr (6, [.ref a_lines, .ref a_chart, .ref a_trial, .ref a_log, .ref a_shelves, .ref a_shown, .int k_shownCount, .int k_status_35, .int k_whyStep, .int k_whyReason, .int k_whyBarge, z_search, z_plan]))]) hP hD [0] [1, 2, 3, 4, 5, 6, 7, 8] rfl rfl (by decide) (by decide) hk1 hFc hP1 hD1
      clear hP hD
      obtain ⟨hP, hD⟩ := hPD
      replace hP := hP.sub (ws' := [(a_t, .inr (6, [.ref a_lines, .ref a_chart, .ref a_trial, .ref a_log, .ref a_shelves, .ref a_shown, .int k_shownCount, .int k_status_35, .int k_whyStep, .int k_whyReason, .int k_whyBarge, z_search, z_plan])), (a_chart, .inr (0, [.int k_chart_width, .int k_chart_height, .int k_chart_barges, .long k_chart_walls, .long k_chart_taken, .ref a_chart_kind, .ref a_chart_place, .ref a_chart_length, .ref a_chart_gate, .ref a_chart_across, .ref a_chart_wide, .ref a_chart_high, .ref a_chart_shape])), (a_chart_kind, .inl (cT 0, 12, .inl k_chart_kind)), (a_chart_place, .inl (cT 0, 12, .inl k_chart_place)), (a_chart_gate, .inl (cT 0, 12, .inl k_chart_gate)), (a_chart_across, .inl (cT 2, 12, .inl k_chart_across)), (a_chart_wide, .inl (cT 0, 12, .inl k_chart_wide)), (a_chart_high, .inl (cT 0, 12, .inl k_chart_high)), (a_log, .inr (3, [.ref a_log_moves, .int k_log_first, .int k_log_done, .int k_log_undone]))]) [8, 0, 1, 2, 3, 4, 5, 6, 7] rfl
      replace hD := hD.sub (ws' := [(a_t, .inr (6, [.ref a_lines, .ref a_chart, .ref a_trial, .ref a_log, .ref a_shelves, .ref a_shown, .int k_shownCount, .int k_status_35, .int k_whyStep, .int k_whyReason, .int k_whyBarge, z_search, z_plan])), (a_chart, .inr (0, [.int k_chart_width, .int k_chart_height, .int k_chart_barges, .long k_chart_walls, .long k_chart_taken, .ref a_chart_kind, .ref a_chart_place, .ref a_chart_length, .ref a_chart_gate, .ref a_chart_across, .ref a_chart_wide, .ref a_chart_high, .ref a_chart_shape])), (a_chart_kind, .inl (cT 0, 12, .inl k_chart_kind)), (a_chart_place, .inl (cT 0, 12, .inl k_chart_place)), (a_chart_gate, .inl (cT 0, 12, .inl k_chart_gate)), (a_chart_across, .inl (cT 2, 12, .inl k_chart_across)), (a_chart_wide, .inl (cT 0, 12, .inl k_chart_wide)), (a_chart_high, .inl (cT 0, 12, .inl k_chart_high)), (a_log, .inr (3, [.ref a_log_moves, .int k_log_first, .int k_log_done, .int k_log_undone]))]) [8, 0, 1, 2, 3, 4, 5, 6, 7] (by decide) rfl
      clear hPc hDc hFc hP1 hK1 hD1 hk1 hz1
      generalize H1 = H at hP hS ⊢
      replace hf := ob_bool hf
      obtain ⟨hz_38, hf⟩ := hf
      replace hf := ob_t5 hf
      obtain ⟨ee0, ee1, ee2, ee3, ee4⟩ := hf
      subst ee0
      subst ee1
      subst ee2
      subst ee3
      subst ee4
      exact W.zret hx hb hr hz_38 (fun t ht hW => ⟨⟨_, (), rfl, rfl, by rw [ht]; exact hP, va_K.moved hW.alike hK, hD⟩, hS.F ht⟩) hS.2.2 dX6_gate_33
  · replace hf := ob_neg c_4 hf
    refine lv_aload_n hx hb dX6_gate_12 rfl (lv_at hl 1 rfl) ?_
    refine lv_iload hx hb dX6_gate_13 (lv_at hl 0 rfl) ?_
    replace hf := ob_b hf
    obtain ⟨⟨zr_39, k_status_40⟩, hc_41, hf⟩ := hf
    replace hf := ob_un2 hf
    have hPc := hP.sub (ws' := [(a_t, .inr (6, [.ref a_lines, .ref a_chart, .ref a_trial, .ref a_log, .ref a_shelves, .ref a_shown, .int k_shownCount, .int k_status, .int k_whyStep, .int k_whyReason, .int k_whyBarge, z_search, z_plan]))]) [0] rfl
    have hDc := hD.sub (ws' := [(a_t, .inr (6, [.ref a_lines, .ref a_chart, .ref a_trial, .ref a_log, .ref a_shelves, .ref a_shown, .int k_shownCount, .int k_status, .int k_whyStep, .int k_whyReason, .int k_whyBarge, z_search, z_plan]))]) [0] (by decide) rfl
    have hFc := va_free (wc := [(a_t, .inr (6, [.ref a_lines, .ref a_chart, .ref a_trial, .ref a_log, .ref a_shelves, .ref a_shown, .int k_shownCount, .int k_status, .int k_whyStep, .int k_whyReason, .int k_whyBarge, z_search, z_plan]))]) hD hS hA [0] rfl
    refine va_calli (va_runV (As := [.int r_1]) (rest := []) ⟨hx, hb, hml, hown, hts⟩ (c_f_BargeBasin_deny l D cT H.size a_t a_lines a_chart a_trial a_log a_shelves a_shown z_search z_plan k_shownCount k_status k_whyStep k_whyReason k_whyBarge r_1 _ _ hc_41) (cwV 1 hts gX6_gate_X6_deny rfl rfl rfl (by decide +kernel) ⟨Nat.le_of_ble_eq_true rfl, Nat.le_of_ble_eq_true rfl⟩) ⟨fun a U g mk q => by obtain ⟨q0, q1, qP, qK, qN, qD⟩ := q; exact ⟨q0, q1, qP, va_K.moved (u := U) (U := U.calling g mk a) (Vm.Alike.refl U.vm) qK, jNw_same (u := U) (U := U.calling g mk a) rfl qN, qD⟩, va_recv hK hP (ci := 6) (q0 := 0) rfl rfl, fun U hU hW => ⟨rfl, by rw [hU], by rw [hU]; exact hPc, va_K.moved hW.alike hK, jNw_warm hW hN, hDc.weaken (fun _ _ _ _ => trivial)⟩⟩ rfl rfl hl.1 rfl (lv_room (Nat.le_of_ble_eq_true rfl)) dX6_gate_15 ⟨Nat.le_of_ble_eq_true rfl, Nat.le_of_ble_eq_true rfl⟩) hS (fun q _ h => hFc q h) hFc (fun r_39 u t H1 locs ht hvm er_42 hB hz1 hk1 hS => ?_)
    subst er_42
    obtain ⟨hP1, hK1, hD1⟩ := hB
    rw [ht] at hP1
    have hPD := va_join (wr := [(a_chart, .inr (0, [.int k_chart_width, .int k_chart_height, .int k_chart_barges, .long k_chart_walls, .long k_chart_taken, .ref a_chart_kind, .ref a_chart_place, .ref a_chart_length, .ref a_chart_gate, .ref a_chart_across, .ref a_chart_wide, .ref a_chart_high, .ref a_chart_shape])), (a_chart_kind, .inl (cT 0, 12, .inl k_chart_kind)), (a_chart_place, .inl (cT 0, 12, .inl k_chart_place)), (a_chart_gate, .inl (cT 0, 12, .inl k_chart_gate)), (a_chart_across, .inl (cT 2, 12, .inl k_chart_across)), (a_chart_wide, .inl (cT 0, 12, .inl k_chart_wide)), (a_chart_high, .inl (cT 0, 12, .inl k_chart_high)), (a_log, .inr (3, [.ref a_log_moves, .int k_log_first, .int k_log_done, .int k_log_undone]))]) (w1 := [(a_t, .inr (6, [.ref a_lines, .ref a_chart, .ref a_trial, .ref a_log, .ref a_shelves, .ref a_shown, .int k_shownCount, .int k_status_40, .int k_whyStep, .int k_whyReason, .int k_whyBarge, z_search, z_plan]))]) hP hD [0] [1, 2, 3, 4, 5, 6, 7, 8] rfl rfl (by decide) (by decide) hk1 hFc hP1 hD1
    clear hP hD
    obtain ⟨hP, hD⟩ := hPD
    replace hP := hP.sub (ws' := [(a_t, .inr (6, [.ref a_lines, .ref a_chart, .ref a_trial, .ref a_log, .ref a_shelves, .ref a_shown, .int k_shownCount, .int k_status_40, .int k_whyStep, .int k_whyReason, .int k_whyBarge, z_search, z_plan])), (a_chart, .inr (0, [.int k_chart_width, .int k_chart_height, .int k_chart_barges, .long k_chart_walls, .long k_chart_taken, .ref a_chart_kind, .ref a_chart_place, .ref a_chart_length, .ref a_chart_gate, .ref a_chart_across, .ref a_chart_wide, .ref a_chart_high, .ref a_chart_shape])), (a_chart_kind, .inl (cT 0, 12, .inl k_chart_kind)), (a_chart_place, .inl (cT 0, 12, .inl k_chart_place)), (a_chart_gate, .inl (cT 0, 12, .inl k_chart_gate)), (a_chart_across, .inl (cT 2, 12, .inl k_chart_across)), (a_chart_wide, .inl (cT 0, 12, .inl k_chart_wide)), (a_chart_high, .inl (cT 0, 12, .inl k_chart_high)), (a_log, .inr (3, [.ref a_log_moves, .int k_log_first, .int k_log_done, .int k_log_undone]))]) [8, 0, 1, 2, 3, 4, 5, 6, 7] rfl
    replace hD := hD.sub (ws' := [(a_t, .inr (6, [.ref a_lines, .ref a_chart, .ref a_trial, .ref a_log, .ref a_shelves, .ref a_shown, .int k_shownCount, .int k_status_40, .int k_whyStep, .int k_whyReason, .int k_whyBarge, z_search, z_plan])), (a_chart, .inr (0, [.int k_chart_width, .int k_chart_height, .int k_chart_barges, .long k_chart_walls, .long k_chart_taken, .ref a_chart_kind, .ref a_chart_place, .ref a_chart_length, .ref a_chart_gate, .ref a_chart_across, .ref a_chart_wide, .ref a_chart_high, .ref a_chart_shape])), (a_chart_kind, .inl (cT 0, 12, .inl k_chart_kind)), (a_chart_place, .inl (cT 0, 12, .inl k_chart_place)), (a_chart_gate, .inl (cT 0, 12, .inl k_chart_gate)), (a_chart_across, .inl (cT 2, 12, .inl k_chart_across)), (a_chart_wide, .inl (cT 0, 12, .inl k_chart_wide)), (a_chart_high, .inl (cT 0, 12, .inl k_chart_high)), (a_log, .inr (3, [.ref a_log_moves, .int k_log_first, .int k_log_done, .int k_log_undone]))]) [8, 0, 1, 2, 3, 4, 5, 6, 7] (by decide) rfl
    clear hPc hDc hFc hP1 hK1 hD1 hk1 hz1
    generalize H1 = H at hP hS ⊢
    replace hf := ob_bool hf
    obtain ⟨hz_43, hf⟩ := hf
    replace hf := ob_t5 hf
    obtain ⟨ee0, ee1, ee2, ee3, ee4⟩ := hf
    subst ee0
    subst ee1
    subst ee2
    subst ee3
    subst ee4
    exact W.zret hx hb hr hz_43 (fun t ht hW => ⟨⟨_, (), rfl, rfl, by rw [ht]; exact hP, va_K.moved hW.alike hK, hD⟩, hS.F ht⟩) hS.2.2 dX6_gate_18
theorem iw_wsX6_lift_X6 : ∀ w ∈ wsX60, w ∈ wsX6_lift := fun _ h => List.mem_cons_of_mem _ (List.mem_append_left _ (List.mem_append_left _ (List.mem_append_right _ h)))
theorem iw_wsX6_lift_X0 : ∀ w ∈ wsX00, w ∈ wsX6_lift := fun _ h => List.mem_cons_of_mem _ (List.mem_append_left _ (List.mem_append_right _ h))
theorem iw_wsX6_lift_X3 : ∀ w ∈ wsX30, w ∈ wsX6_lift := fun _ h => List.mem_cons_of_mem _ (List.mem_append_right _ h)
abbrev rm_BargeBasin_lift : Room := { frames := 2, cells := 0, slots := 0, locals := 45 }
set_option maxHeartbeats 4000000 in
set_option maxRecDepth 100000 in
theorem c_f_BargeBasin_lift (l : Launch) (D : va_G) (cT : Nat → ClassId) (sz : Nat) (a_t a_lines a_chart a_trial a_log a_shelves a_shown a_chart_kind a_chart_place a_chart_length a_chart_gate a_chart_across a_chart_wide a_chart_high a_chart_shape a_log_moves : Nat) (z_search z_plan : Value) (k_shownCount : Int32) (k_status : Int32) (k_whyStep : Int32) (k_whyReason : Int32) (k_whyBarge : Int32) (k_chart_width : Int32) (k_chart_height : Int32) (k_chart_barges : Int32) (k_chart_walls : Int64) (k_chart_taken : Int64) (k_chart_kind : Nat → Int32) (k_chart_place : Nat → Int32) (k_chart_length : Nat → Int32) (k_chart_gate : Nat → Int32) (k_chart_across : Nat → Int32) (k_chart_wide : Nat → Int32) (k_chart_high : Nat → Int32) (k_chart_shape : Nat → Int64) (k_log_first : Int32) (k_log_done : Int32) (k_log_undone : Int32) (v1 : Int32) (r0 : Int32) (k_status₉ : Int32) (k_chart_barges₉ : Int32) (k_chart_taken₉ : Int64) (k_chart_kind₉ : Nat → Int32) (k_chart_place₉ : Nat → Int32) (k_chart_length₉ : Nat → Int32) (k_chart_gate₉ : Nat → Int32) (k_chart_across₉ : Nat → Int32) (k_chart_wide₉ : Nat → Int32) (k_chart_high₉ : Nat → Int32) (k_chart_shape₉ : Nat → Int64) (k_log_done₉ : Int32) (k_log_undone₉ : Int32) (hf : f_BargeBasin_lift v1 k_status k_chart_width k_chart_barges k_chart_taken k_chart_kind k_chart_place k_chart_length k_chart_gate k_chart_across k_chart_wide k_chart_high k_chart_shape k_log_done k_log_undone = some (r0, k_status₉, k_chart_barges₉, k_chart_taken₉, k_chart_kind₉, k_chart_place₉, k_chart_length₉, k_chart_gate₉, k_chart_across₉, k_chart_wide₉, k_chart_high₉, k_chart_shape₉, k_log_done₉, k_log_undone₉)) : Met l yX6_lift wsX6_lift rm_BargeBasin_lift (va_Pc [.ref a_t, .int v1] (fun U => U.heap.size = sz ∧ va_P D vwCl [(a_t, .inr (6, [.ref a_lines, .ref a_chart, .ref a_trial, .ref a_log, .ref a_shelves, .ref a_shown, .int k_shownCount, .int k_status, .int k_whyStep, .int k_whyReason, .int k_whyBarge, z_search, z_plan])), (a_chart, .inr (0, [.int k_chart_width, .int k_chart_height, .int k_chart_barges, .long k_chart_walls, .long k_chart_taken, .ref a_chart_kind, .ref a_chart_place, .ref a_chart_length, .ref a_chart_gate, .ref a_chart_across, .ref a_chart_wide, .ref a_chart_high, .ref a_chart_shape])), (a_chart_kind, .inl (cT 0, 12, .inl k_chart_kind)), (a_chart_place, .inl (cT 0, 12, .inl k_chart_place)), (a_chart_length, .inl (cT 0, 12, .inl k_chart_length)), (a_chart_gate, .inl (cT 0, 12, .inl k_chart_gate)), (a_chart_across, .inl (cT 2, 12, .inl k_chart_across)), (a_chart_wide, .inl (cT 0, 12, .inl k_chart_wide)), (a_chart_high, .inl (cT 0, 12, .inl k_chart_high)), (a_chart_shape, .inl (cT 1, 12, .inr (.inl k_chart_shape))), (a_log, .inr (3, [.ref a_log_moves, .int k_log_first, .int k_log_done, .int k_log_undone]))] U.heap ∧ va_K D vwCl (jT cT) U ∧ jNw U ∧ va_D (fun _ => True) [(a_t, .inr (6, [.ref a_lines, .ref a_chart, .ref a_trial, .ref a_log, .ref a_shelves, .ref a_shown, .int k_shownCount, .int k_status, .int k_whyStep, .int k_whyReason, .int k_whyBarge, z_search, z_plan])), (a_chart, .inr (0, [.int k_chart_width, .int k_chart_height, .int k_chart_barges, .long k_chart_walls, .long k_chart_taken, .ref a_chart_kind, .ref a_chart_place, .ref a_chart_length, .ref a_chart_gate, .ref a_chart_across, .ref a_chart_wide, .ref a_chart_high, .ref a_chart_shape])), (a_chart_kind, .inl (cT 0, 12, .inl k_chart_kind)), (a_chart_place, .inl (cT 0, 12, .inl k_chart_place)), (a_chart_length, .inl (cT 0, 12, .inl k_chart_length)), (a_chart_gate, .inl (cT 0, 12, .inl k_chart_gate)), (a_chart_across, .inl (cT 2, 12, .inl k_chart_across)), (a_chart_wide, .inl (cT 0, 12, .inl k_chart_wide)), (a_chart_high, .inl (cT 0, 12, .inl k_chart_high)), (a_chart_shape, .inl (cT 1, 12, .inr (.inl k_chart_shape))), (a_log, .inr (3, [.ref a_log_moves, .int k_log_first, .int k_log_done, .int k_log_undone]))])) (va_Qi (fun r (_ : Unit) => r = r0) (fun (_ : Unit) t => va_P D vwCl [(a_t, .inr (6, [.ref a_lines, .ref a_chart, .ref a_trial, .ref a_log, .ref a_shelves, .ref a_shown, .int k_shownCount, .int k_status₉, .int k_whyStep, .int k_whyReason, .int k_whyBarge, z_search, z_plan])), (a_chart, .inr (0, [.int k_chart_width, .int k_chart_height, .int k_chart_barges₉, .long k_chart_walls, .long k_chart_taken₉, .ref a_chart_kind, .ref a_chart_place, .ref a_chart_length, .ref a_chart_gate, .ref a_chart_across, .ref a_chart_wide, .ref a_chart_high, .ref a_chart_shape])), (a_chart_kind, .inl (cT 0, 12, .inl k_chart_kind₉)), (a_chart_place, .inl (cT 0, 12, .inl k_chart_place₉)), (a_chart_length, .inl (cT 0, 12, .inl k_chart_length₉)), (a_chart_gate, .inl (cT 0, 12, .inl k_chart_gate₉)), (a_chart_across, .inl (cT 2, 12, .inl k_chart_across₉)), (a_chart_wide, .inl (cT 0, 12, .inl k_chart_wide₉)), (a_chart_high, .inl (cT 0, 12, .inl k_chart_high₉)), (a_chart_shape, .inl (cT 1, 12, .inr (.inl k_chart_shape₉))), (a_log, .inr (3, [.ref a_log_moves, .int k_log_first, .int k_log_done₉, .int k_log_undone₉]))] t.heap ∧ va_K D vwCl (jT cT) t ∧ va_D (va_A [(a_t, .inr (6, [.ref a_lines, .ref a_chart, .ref a_trial, .ref a_log, .ref a_shelves, .ref a_shown, .int k_shownCount, .int k_status, .int k_whyStep, .int k_whyReason, .int k_whyBarge, z_search, z_plan])), (a_chart, .inr (0, [.int k_chart_width, .int k_chart_height, .int k_chart_barges, .long k_chart_walls, .long k_chart_taken, .ref a_chart_kind, .ref a_chart_place, .ref a_chart_length, .ref a_chart_gate, .ref a_chart_across, .ref a_chart_wide, .ref a_chart_high, .ref a_chart_shape])), (a_chart_kind, .inl (cT 0, 12, .inl k_chart_kind)), (a_chart_place, .inl (cT 0, 12, .inl k_chart_place)), (a_chart_length, .inl (cT 0, 12, .inl k_chart_length)), (a_chart_gate, .inl (cT 0, 12, .inl k_chart_gate)), (a_chart_across, .inl (cT 2, 12, .inl k_chart_across)), (a_chart_wide, .inl (cT 0, 12, .inl k_chart_wide)), (a_chart_high, .inl (cT 0, 12, .inl k_chart_high)), (a_chart_shape, .inl (cT 1, 12, .inr (.inl k_chart_shape))), (a_log, .inr (3, [.ref a_log_moves, .int k_log_first, .int k_log_done, .int k_log_undone]))] sz) [(a_t, .inr (6, [.ref a_lines, .ref a_chart, .ref a_trial, .ref a_log, .ref a_shelves, .ref a_shown, .int k_shownCount, .int k_status₉, .int k_whyStep, .int k_whyReason, .int k_whyBarge, z_search, z_plan])), (a_chart, .inr (0, [.int k_chart_width, .int k_chart_height, .int k_chart_barges₉, .long k_chart_walls, .long k_chart_taken₉, .ref a_chart_kind, .ref a_chart_place, .ref a_chart_length, .ref a_chart_gate, .ref a_chart_across, .ref a_chart_wide, .ref a_chart_high, .ref a_chart_shape])), (a_chart_kind, .inl (cT 0, 12, .inl k_chart_kind₉)), (a_chart_place, .inl (cT 0, 12, .inl k_chart_place₉)), (a_chart_length, .inl (cT 0, 12, .inl k_chart_length₉)), (a_chart_gate, .inl (cT 0, 12, .inl k_chart_gate₉)), (a_chart_across, .inl (cT 2, 12, .inl k_chart_across₉)), (a_chart_wide, .inl (cT 0, 12, .inl k_chart_wide₉)), (a_chart_high, .inl (cT 0, 12, .inl k_chart_high₉)), (a_chart_shape, .inl (cT 1, 12, .inr (.inl k_chart_shape₉))), (a_log, .inr (3, [.ref a_log_moves, .int k_log_first, .int k_log_done₉, .int k_log_undone₉]))]) (va_A [(a_t, .inr (6, [.ref a_lines, .ref a_chart, .ref a_trial, .ref a_log, .ref a_shelves, .ref a_shown, .int k_shownCount, .int k_status, .int k_whyStep, .int k_whyReason, .int k_whyBarge, z_search, z_plan])), (a_chart, .inr (0, [.int k_chart_width, .int k_chart_height, .int k_chart_barges, .long k_chart_walls, .long k_chart_taken, .ref a_chart_kind, .ref a_chart_place, .ref a_chart_length, .ref a_chart_gate, .ref a_chart_across, .ref a_chart_wide, .ref a_chart_high, .ref a_chart_shape])), (a_chart_kind, .inl (cT 0, 12, .inl k_chart_kind)), (a_chart_place, .inl (cT 0, 12, .inl k_chart_place)), (a_chart_length, .inl (cT 0, 12, .inl k_chart_length)), (a_chart_gate, .inl (cT 0, 12, .inl k_chart_gate)), (a_chart_across, .inl (cT 2, 12, .inl k_chart_across)), (a_chart_wide, .inl (cT 0, 12, .inl k_chart_wide)), (a_chart_high, .inl (cT 0, 12, .inl k_chart_high)), (a_chart_shape, .inl (cT 1, 12, .inr (.inl k_chart_shape))), (a_log, .inr (3, [.ref a_log_moves, .int k_log_first, .int k_log_done, .int k_log_undone]))] sz)) 0 0 (va_A [(a_t, .inr (6, [.ref a_lines, .ref a_chart, .ref a_trial, .ref a_log, .ref a_shelves, .ref a_shown, .int k_shownCount, .int k_status, .int k_whyStep, .int k_whyReason, .int k_whyBarge, z_search, z_plan])), (a_chart, .inr (0, [.int k_chart_width, .int k_chart_height, .int k_chart_barges, .long k_chart_walls, .long k_chart_taken, .ref a_chart_kind, .ref a_chart_place, .ref a_chart_length, .ref a_chart_gate, .ref a_chart_across, .ref a_chart_wide, .ref a_chart_high, .ref a_chart_shape])), (a_chart_kind, .inl (cT 0, 12, .inl k_chart_kind)), (a_chart_place, .inl (cT 0, 12, .inl k_chart_place)), (a_chart_length, .inl (cT 0, 12, .inl k_chart_length)), (a_chart_gate, .inl (cT 0, 12, .inl k_chart_gate)), (a_chart_across, .inl (cT 2, 12, .inl k_chart_across)), (a_chart_wide, .inl (cT 0, 12, .inl k_chart_wide)), (a_chart_high, .inl (cT 0, 12, .inl k_chart_high)), (a_chart_shape, .inl (cT 1, 12, .inr (.inl k_chart_shape))), (a_log, .inr (3, [.ref a_log_moves, .int k_log_first, .int k_log_done, .int k_log_undone]))] sz) := by
  refine Met.ofW (cc := cX6_lift) (maxL := 3) (ret := (some .boolean)) (by decide) rfl ?_
  intro p e s m args below meth c s₁ B hml hv
  obtain ⟨rfl, hsz, hP, hK, hN, hD0⟩ := hv
  have hx := B.exec
  have hb := B.bytes
  have hr := B.returns
  have hts := atoms_spec (ws := wsX6_lift) B.pre
  have hown : s.vm.findClass RX6 = some m.cls := findClass_of_methodNamed B.named
  have hlocks := B.notSynchronized
  subst hsz
  have hD := hD0.self (sz := s.heap.size)
  clear hD0
  generalize hAe : va_A [(a_t, .inr (6, [.ref a_lines, .ref a_chart, .ref a_trial, .ref a_log, .ref a_shelves, .ref a_shown, .int k_shownCount, .int k_status, .int k_whyStep, .int k_whyReason, .int k_whyBarge, z_search, z_plan])), (a_chart, .inr (0, [.int k_chart_width, .int k_chart_height, .int k_chart_barges, .long k_chart_walls, .long k_chart_taken, .ref a_chart_kind, .ref a_chart_place, .ref a_chart_length, .ref a_chart_gate, .ref a_chart_across, .ref a_chart_wide, .ref a_chart_high, .ref a_chart_shape])), (a_chart_kind, .inl (cT 0, 12, .inl k_chart_kind)), (a_chart_place, .inl (cT 0, 12, .inl k_chart_place)), (a_chart_length, .inl (cT 0, 12, .inl k_chart_length)), (a_chart_gate, .inl (cT 0, 12, .inl k_chart_gate)), (a_chart_across, .inl (cT 2, 12, .inl k_chart_across)), (a_chart_wide, .inl (cT 0, 12, .inl k_chart_wide)), (a_chart_high, .inl (cT 0, 12, .inl k_chart_high)), (a_chart_shape, .inl (cT 1, 12, .inr (.inl k_chart_shape))), (a_log, .inr (3, [.ref a_log_moves, .int k_log_first, .int k_log_done, .int k_log_undone]))] s.heap.size = A at hD ⊢
  have hA : ∀ q : Nat, s.heap.size ≤ q → A q := fun q h => by rw [← hAe]; exact Or.inr h
  clear hAe
  have hl := lv_entry ([.ref a_t, .int v1]) (n := 3) (Nat.le_of_ble_eq_true rfl)
  rw [lg_entry_eq]
  generalize (lg_sl ([.ref a_t, .int v1]) ++ List.replicate (3 - (lg_sl ([.ref a_t, .int v1])).length) Slot.unset).toArray = ls at hl ⊢
  have hl : lv_has ls 3 [(0, .ref a_t), (1, .int v1)] := hl
  refine j_start (A := A) hP (fun H locs hP hS => ?_)
  unfold f_BargeBasin_lift at hf
  refine lv_aload_n hx hb dX6_lift_0 rfl (lv_at hl 0 rfl) ?_
  refine lv_iload_n hx hb dX6_lift_1 rfl (lv_at hl 1 rfl) ?_
  replace hf := ob_b hf
  obtain ⟨zr_1, hc_2, hf⟩ := hf
  refine vp_callSi (W.runV (As := [.int v1]) (rest := []) ⟨hx, hb, hml, hown, hts⟩ (c_f_BargeBasin_faultOfBarge l D cT a_t a_lines a_chart a_trial a_log a_shelves a_shown a_chart_kind a_chart_place a_chart_length a_chart_gate a_chart_across a_chart_wide a_chart_high a_chart_shape z_search z_plan k_shownCount k_status k_whyStep k_whyReason k_whyBarge k_chart_width k_chart_height k_chart_barges k_chart_walls k_chart_taken v1 _ hc_2) (cwV 1 hts gX6_lift_X6_faultOfBarge rfl rfl rfl (by decide +kernel) ⟨Nat.le_of_ble_eq_true rfl, Nat.le_of_ble_eq_true rfl⟩) ⟨fun a U g mk q => by obtain ⟨q0, qP, qK, qN⟩ := q; exact ⟨q0, qP, va_K.moved (u := U) (U := U.calling g mk a) (Vm.Alike.refl U.vm) qK, jNw_same (u := U) (U := U.calling g mk a) rfl qN⟩, va_recv hK hP (ci := 6) (q0 := 0) rfl rfl, fun U hU hW => ⟨rfl, by rw [hU]; exact hP.sub [0, 1] rfl, va_K.moved hW.alike hK, jNw_warm hW hN⟩⟩ rfl rfl hl.1 rfl (lv_room (Nat.le_of_ble_eq_true rfl)) dX6_lift_2 ⟨Nat.le_of_ble_eq_true rfl, Nat.le_of_ble_eq_true rfl⟩) (fun r_1 er_3 => ?_)
  subst er_3
  refine lv_istore_n (lv' := [(2, .int r_1), (0, .ref a_t), (1, .int v1)]) hx hb dX6_lift_5 rfl hl (by decide) rfl (fun ls hl => ?_)
  refine lv_iload_n hx hb dX6_lift_6 rfl (lv_at hl 0 rfl) ?_
  refine lv_if_eq (tgt := 16) hx hb dX6_lift_7 (by decide) (fun c_4 => ?_) (fun c_4 => ?_)
  · replace hf := ob_pos c_4 hf
    refine lv_aload_n hx hb dX6_lift_16 rfl (lv_at hl 1 rfl) ?_
    refine va_get (D := D) (ci := 6) (v := .ref a_chart) (C := RX6) (T := TX6) (N := 13) hx hb hts iw_wsX6_lift_X6 hown hK hP 0 rfl rfl 1 (by decide) (hts (.fieldLink RX6 19 "BargeBasin" "chart" "LBargeBasin$Chart;") (List.mem_of_getElem? (i := 1) (by decide +kernel))) (fun _ h9 => h9) rfl dX6_lift_17 ?_
    refine lv_iload_n hx hb dX6_lift_20 rfl (lv_at hl 2 rfl) ?_
    replace hf := ob_b hf
    obtain ⟨⟨k_chart_barges_5, k_chart_taken_6, k_chart_kind_7, k_chart_place_8, k_chart_length_9, k_chart_gate_10, k_chart_across_11, k_chart_wide_12, k_chart_high_13, k_chart_shape_14⟩, hc_15, hf⟩ := hf
    replace hf := ob_un10 hf
    have hPc := hP.sub (ws' := [(a_chart, .inr (0, [.int k_chart_width, .int k_chart_height, .int k_chart_barges, .long k_chart_walls, .long k_chart_taken, .ref a_chart_kind, .ref a_chart_place, .ref a_chart_length, .ref a_chart_gate, .ref a_chart_across, .ref a_chart_wide, .ref a_chart_high, .ref a_chart_shape])), (a_chart_kind, .inl (cT 0, 12, .inl k_chart_kind)), (a_chart_place, .inl (cT 0, 12, .inl k_chart_place)), (a_chart_length, .inl (cT 0, 12, .inl k_chart_length)), (a_chart_gate, .inl (cT 0, 12, .inl k_chart_gate)), (a_chart_across, .inl (cT 2, 12, .inl k_chart_across)), (a_chart_wide, .inl (cT 0, 12, .inl k_chart_wide)), (a_chart_high, .inl (cT 0, 12, .inl k_chart_high)), (a_chart_shape, .inl (cT 1, 12, .inr (.inl k_chart_shape)))]) [1, 2, 3, 4, 5, 6, 7, 8, 9] rfl
    have hDc := hD.sub (ws' := [(a_chart, .inr (0, [.int k_chart_width, .int k_chart_height, .int k_chart_barges, .long k_chart_walls, .long k_chart_taken, .ref a_chart_kind, .ref a_chart_place, .ref a_chart_length, .ref a_chart_gate, .ref a_chart_across, .ref a_chart_wide, .ref a_chart_high, .ref a_chart_shape])), (a_chart_kind, .inl (cT 0, 12, .inl k_chart_kind)), (a_chart_place, .inl (cT 0, 12, .inl k_chart_place)), (a_chart_length, .inl (cT 0, 12, .inl k_chart_length)), (a_chart_gate, .inl (cT 0, 12, .inl k_chart_gate)), (a_chart_across, .inl (cT 2, 12, .inl k_chart_across)), (a_chart_wide, .inl (cT 0, 12, .inl k_chart_wide)), (a_chart_high, .inl (cT 0, 12, .inl k_chart_high)), (a_chart_shape, .inl (cT 1, 12, .inr (.inl k_chart_shape)))]) [1, 2, 3, 4, 5, 6, 7, 8, 9] (by decide) rfl
    have hFc := va_free (wc := [(a_chart, .inr (0, [.int k_chart_width, .int k_chart_height, .int k_chart_barges, .long k_chart_walls, .long k_chart_taken, .ref a_chart_kind, .ref a_chart_place, .ref a_chart_length, .ref a_chart_gate, .ref a_chart_across, .ref a_chart_wide, .ref a_chart_high, .ref a_chart_shape])), (a_chart_kind, .inl (cT 0, 12, .inl k_chart_kind)), (a_chart_place, .inl (cT 0, 12, .inl k_chart_place)), (a_chart_length, .inl (cT 0, 12, .inl k_chart_length)), (a_chart_gate, .inl (cT 0, 12, .inl k_chart_gate)), (a_chart_across, .inl (cT 2, 12, .inl k_chart_across)), (a_chart_wide, .inl (cT 0, 12, .inl k_chart_wide)), (a_chart_high, .inl (cT 0, 12, .inl k_chart_high)), (a_chart_shape, .inl (cT 1, 12, .inr (.inl k_chart_shape)))]) hD hS hA [1, 2, 3, 4, 5, 6, 7, 8, 9] rfl
    refine va_callv (va_runV (As := [.int v1]) (rest := []) ⟨hx, hb, hml, hown, hts⟩ (c_f_Chart_drop l D cT H.size a_chart a_chart_kind a_chart_place a_chart_length a_chart_gate a_chart_across a_chart_wide a_chart_high a_chart_shape k_chart_width k_chart_height k_chart_barges k_chart_walls k_chart_taken k_chart_kind k_chart_place k_chart_length k_chart_gate k_chart_across k_chart_wide k_chart_high k_chart_shape v1 _ _ _ _ _ _ _ _ _ _ hc_15) (cwV 1 hts gX6_lift_X0_drop rfl rfl rfl (by decide +kernel) ⟨Nat.le_of_ble_eq_true rfl, Nat.le_of_ble_eq_true rfl⟩) ⟨fun a U g mk q => by obtain ⟨q0, q1, qP, qK, qN, qD⟩ := q; exact ⟨q0, q1, qP, va_K.moved (u := U) (U := U.calling g mk a) (Vm.Alike.refl U.vm) qK, jNw_same (u := U) (U := U.calling g mk a) rfl qN, qD⟩, va_recv hK hP (ci := 0) (q0 := 1) rfl rfl, fun U hU hW => ⟨rfl, by rw [hU], by rw [hU]; exact hPc, va_K.moved hW.alike hK, jNw_warm hW hN, hDc.weaken (fun _ _ _ _ => trivial)⟩⟩ rfl rfl hl.1 rfl (lv_room (Nat.le_of_ble_eq_true rfl)) dX6_lift_21 ⟨Nat.le_of_ble_eq_true rfl, Nat.le_of_ble_eq_true rfl⟩) hS (fun q _ h => hFc q h) hFc (fun u t H1 locs ht hvm er_16 hB hz1 hk1 hS => ?_)
    obtain ⟨hP1, hK1, hD1⟩ := hB
    rw [ht] at hP1
    have hPD := va_join (wr := [(a_t, .inr (6, [.ref a_lines, .ref a_chart, .ref a_trial, .ref a_log, .ref a_shelves, .ref a_shown, .int k_shownCount, .int k_status, .int k_whyStep, .int k_whyReason, .int k_whyBarge, z_search, z_plan])), (a_log, .inr (3, [.ref a_log_moves, .int k_log_first, .int k_log_done, .int k_log_undone]))]) (w1 := [(a_chart, .inr (0, [.int k_chart_width, .int k_chart_height, .int k_chart_barges_5, .long k_chart_walls, .long k_chart_taken_6, .ref a_chart_kind, .ref a_chart_place, .ref a_chart_length, .ref a_chart_gate, .ref a_chart_across, .ref a_chart_wide, .ref a_chart_high, .ref a_chart_shape])), (a_chart_kind, .inl (cT 0, 12, .inl k_chart_kind_7)), (a_chart_place, .inl (cT 0, 12, .inl k_chart_place_8)), (a_chart_length, .inl (cT 0, 12, .inl k_chart_length_9)), (a_chart_gate, .inl (cT 0, 12, .inl k_chart_gate_10)), (a_chart_across, .inl (cT 2, 12, .inl k_chart_across_11)), (a_chart_wide, .inl (cT 0, 12, .inl k_chart_wide_12)), (a_chart_high, .inl (cT 0, 12, .inl k_chart_high_13)), (a_chart_shape, .inl (cT 1, 12, .inr (.inl k_chart_shape_14)))]) hP hD [1, 2, 3, 4, 5, 6, 7, 8, 9] [0, 10] rfl rfl (by decide) (by decide) hk1 hFc hP1 hD1
    clear hP hD
    obtain ⟨hP, hD⟩ := hPD
    replace hP := hP.sub (ws' := [(a_t, .inr (6, [.ref a_lines, .ref a_chart, .ref a_trial, .ref a_log, .ref a_shelves, .ref a_shown, .int k_shownCount, .int k_status, .int k_whyStep, .int k_whyReason, .int k_whyBarge, z_search, z_plan])), (a_chart, .inr (0, [.int k_chart_width, .int k_chart_height, .int k_chart_barges_5, .long k_chart_walls, .long k_chart_taken_6, .ref a_chart_kind, .ref a_chart_place, .ref a_chart_length, .ref a_chart_gate, .ref a_chart_across, .ref a_chart_wide, .ref a_chart_high, .ref a_chart_shape])), (a_chart_kind, .inl (cT 0, 12, .inl k_chart_kind_7)), (a_chart_place, .inl (cT 0, 12, .inl k_chart_place_8)), (a_chart_length, .inl (cT 0, 12, .inl k_chart_length_9)), (a_chart_gate, .inl (cT 0, 12, .inl k_chart_gate_10)), (a_chart_across, .inl (cT 2, 12, .inl k_chart_across_11)), (a_chart_wide, .inl (cT 0, 12, .inl k_chart_wide_12)), (a_chart_high, .inl (cT 0, 12, .inl k_chart_high_13)), (a_chart_shape, .inl (cT 1, 12, .inr (.inl k_chart_shape_14))), (a_log, .inr (3, [.ref a_log_moves, .int k_log_first, .int k_log_done, .int k_log_undone]))]) [0, 2, 3, 4, 5, 6, 7, 8, 9, 10, 1] rfl
    replace hD := hD.sub (ws' := [(a_t, .inr (6, [.ref a_lines, .ref a_chart, .ref a_trial, .ref a_log, .ref a_shelves, .ref a_shown, .int k_shownCount, .int k_status, .int k_whyStep, .int k_whyReason, .int k_whyBarge, z_search, z_plan])), (a_chart, .inr (0, [.int k_chart_width, .int k_chart_height, .int k_chart_barges_5, .long k_chart_walls, .long k_chart_taken_6, .ref a_chart_kind, .ref a_chart_place, .ref a_chart_length, .ref a_chart_gate, .ref a_chart_across, .ref a_chart_wide, .ref a_chart_high, .ref a_chart_shape])), (a_chart_kind, .inl (cT 0, 12, .inl k_chart_kind_7)), (a_chart_place, .inl (cT 0, 12, .inl k_chart_place_8)), (a_chart_length, .inl (cT 0, 12, .inl k_chart_length_9)), (a_chart_gate, .inl (cT 0, 12, .inl k_chart_gate_10)), (a_chart_across, .inl (cT 2, 12, .inl k_chart_across_11)), (a_chart_wide, .inl (cT 0, 12, .inl k_chart_wide_12)), (a_chart_high, .inl (cT 0, 12, .inl k_chart_high_13)), (a_chart_shape, .inl (cT 1, 12, .inr (.inl k_chart_shape_14))), (a_log, .inr (3, [.ref a_log_moves, .int k_log_first, .int k_log_done, .int k_log_undone]))]) [0, 2, 3, 4, 5, 6, 7, 8, 9, 10, 1] (by decide) rfl
    clear hPc hDc hFc hP1 hK1 hD1 hk1 hz1
    generalize H1 = H at hP hS ⊢
    refine lv_aload_n hx hb dX6_lift_24 rfl (lv_at hl 1 rfl) ?_
    replace hf := ob_b hf
    obtain ⟨⟨zr_17, k_status_18, k_log_done_19, k_log_undone_20⟩, hc_21, hf⟩ := hf
    replace hf := ob_un4 hf
    have hPc := hP.sub (ws' := [(a_t, .inr (6, [.ref a_lines, .ref a_chart, .ref a_trial, .ref a_log, .ref a_shelves, .ref a_shown, .int k_shownCount, .int k_status, .int k_whyStep, .int k_whyReason, .int k_whyBarge, z_search, z_plan])), (a_log, .inr (3, [.ref a_log_moves, .int k_log_first, .int k_log_done, .int k_log_undone]))]) [0, 10] rfl
    have hDc := hD.sub (ws' := [(a_t, .inr (6, [.ref a_lines, .ref a_chart, .ref a_trial, .ref a_log, .ref a_shelves, .ref a_shown, .int k_shownCount, .int k_status, .int k_whyStep, .int k_whyReason, .int k_whyBarge, z_search, z_plan])), (a_log, .inr (3, [.ref a_log_moves, .int k_log_first, .int k_log_done, .int k_log_undone]))]) [0, 10] (by decide) rfl
    have hFc := va_free (wc := [(a_t, .inr (6, [.ref a_lines, .ref a_chart, .ref a_trial, .ref a_log, .ref a_shelves, .ref a_shown, .int k_shownCount, .int k_status, .int k_whyStep, .int k_whyReason, .int k_whyBarge, z_search, z_plan])), (a_log, .inr (3, [.ref a_log_moves, .int k_log_first, .int k_log_done, .int k_log_undone]))]) hD hS hA [0, 10] rfl
    refine va_calli (va_runV (As := []) (rest := []) ⟨hx, hb, hml, hown, hts⟩ (c_f_BargeBasin_changed l D cT H.size a_t a_lines a_chart a_trial a_log a_shelves a_shown a_log_moves z_search z_plan k_shownCount k_status k_whyStep k_whyReason k_whyBarge k_log_first k_log_done k_log_undone _ _ _ _ hc_21) (cwV 0 hts gX6_lift_X6_changed rfl rfl rfl (by decide +kernel) ⟨Nat.le_of_ble_eq_true rfl, Nat.le_of_ble_eq_true rfl⟩) ⟨fun a U g mk q => by obtain ⟨q0, q1, qP, qK, qN, qD⟩ := q; exact ⟨q0, q1, qP, va_K.moved (u := U) (U := U.calling g mk a) (Vm.Alike.refl U.vm) qK, jNw_same (u := U) (U := U.calling g mk a) rfl qN, qD⟩, va_recv hK hP (ci := 6) (q0 := 0) rfl rfl, fun U hU hW => ⟨rfl, by rw [hU], by rw [hU]; exact hPc, va_K.moved hW.alike hK, jNw_warm hW hN, hDc.weaken (fun _ _ _ _ => trivial)⟩⟩ rfl rfl hl.1 rfl (lv_room (Nat.le_of_ble_eq_true rfl)) dX6_lift_25 ⟨Nat.le_of_ble_eq_true rfl, Nat.le_of_ble_eq_true rfl⟩) hS (fun q _ h => hFc q h) hFc (fun r_17 u t H1 locs ht hvm er_22 hB hz1 hk1 hS => ?_)
    subst er_22
    obtain ⟨hP1, hK1, hD1⟩ := hB
    rw [ht] at hP1
    have hPD := va_join (wr := [(a_chart, .inr (0, [.int k_chart_width, .int k_chart_height, .int k_chart_barges_5, .long k_chart_walls, .long k_chart_taken_6, .ref a_chart_kind, .ref a_chart_place, .ref a_chart_length, .ref a_chart_gate, .ref a_chart_across, .ref a_chart_wide, .ref a_chart_high, .ref a_chart_shape])), (a_chart_kind, .inl (cT 0, 12, .inl k_chart_kind_7)), (a_chart_place, .inl (cT 0, 12, .inl k_chart_place_8)), (a_chart_length, .inl (cT 0, 12, .inl k_chart_length_9)), (a_chart_gate, .inl (cT 0, 12, .inl k_chart_gate_10)), (a_chart_across, .inl (cT 2, 12, .inl k_chart_across_11)), (a_chart_wide, .inl (cT 0, 12, .inl k_chart_wide_12)), (a_chart_high, .inl (cT 0, 12, .inl k_chart_high_13)), (a_chart_shape, .inl (cT 1, 12, .inr (.inl k_chart_shape_14)))]) (w1 := [(a_t, .inr (6, [.ref a_lines, .ref a_chart, .ref a_trial, .ref a_log, .ref a_shelves, .ref a_shown, .int k_shownCount, .int k_status_18, .int k_whyStep, .int k_whyReason, .int k_whyBarge, z_search, z_plan])), (a_log, .inr (3, [.ref a_log_moves, .int k_log_first, .int k_log_done_19, .int k_log_undone_20]))]) hP hD [0, 10] [1, 2, 3, 4, 5, 6, 7, 8, 9] rfl rfl (by decide) (by decide) hk1 hFc hP1 hD1
    clear hP hD
    obtain ⟨hP, hD⟩ := hPD
    replace hP := hP.sub (ws' := [(a_t, .inr (6, [.ref a_lines, .ref a_chart, .ref a_trial, .ref a_log, .ref a_shelves, .ref a_shown, .int k_shownCount, .int k_status_18, .int k_whyStep, .int k_whyReason, .int k_whyBarge, z_search, z_plan])), (a_chart, .inr (0, [.int k_chart_width, .int k_chart_height, .int k_chart_barges_5, .long k_chart_walls, .long k_chart_taken_6, .ref a_chart_kind, .ref a_chart_place, .ref a_chart_length, .ref a_chart_gate, .ref a_chart_across, .ref a_chart_wide, .ref a_chart_high, .ref a_chart_shape])), (a_chart_kind, .inl (cT 0, 12, .inl k_chart_kind_7)), (a_chart_place, .inl (cT 0, 12, .inl k_chart_place_8)), (a_chart_length, .inl (cT 0, 12, .inl k_chart_length_9)), (a_chart_gate, .inl (cT 0, 12, .inl k_chart_gate_10)), (a_chart_across, .inl (cT 2, 12, .inl k_chart_across_11)), (a_chart_wide, .inl (cT 0, 12, .inl k_chart_wide_12)), (a_chart_high, .inl (cT 0, 12, .inl k_chart_high_13)), (a_chart_shape, .inl (cT 1, 12, .inr (.inl k_chart_shape_14))), (a_log, .inr (3, [.ref a_log_moves, .int k_log_first, .int k_log_done_19, .int k_log_undone_20]))]) [9, 0, 1, 2, 3, 4, 5, 6, 7, 8, 10] rfl
    replace hD := hD.sub (ws' := [(a_t, .inr (6, [.ref a_lines, .ref a_chart, .ref a_trial, .ref a_log, .ref a_shelves, .ref a_shown, .int k_shownCount, .int k_status_18, .int k_whyStep, .int k_whyReason, .int k_whyBarge, z_search, z_plan])), (a_chart, .inr (0, [.int k_chart_width, .int k_chart_height, .int k_chart_barges_5, .long k_chart_walls, .long k_chart_taken_6, .ref a_chart_kind, .ref a_chart_place, .ref a_chart_length, .ref a_chart_gate, .ref a_chart_across, .ref a_chart_wide, .ref a_chart_high, .ref a_chart_shape])), (a_chart_kind, .inl (cT 0, 12, .inl k_chart_kind_7)), (a_chart_place, .inl (cT 0, 12, .inl k_chart_place_8)), (a_chart_length, .inl (cT 0, 12, .inl k_chart_length_9)), (a_chart_gate, .inl (cT 0, 12, .inl k_chart_gate_10)), (a_chart_across, .inl (cT 2, 12, .inl k_chart_across_11)), (a_chart_wide, .inl (cT 0, 12, .inl k_chart_wide_12)), (a_chart_high, .inl (cT 0, 12, .inl k_chart_high_13)), (a_chart_shape, .inl (cT 1, 12, .inr (.inl k_chart_shape_14))), (a_log, .inr (3, [.ref a_log_moves, .int k_log_first, .int k_log_done_19, .int k_log_undone_20]))]) [9, 0, 1, 2, 3, 4, 5, 6, 7, 8, 10] (by decide) rfl
    clear hPc hDc hFc hP1 hK1 hD1 hk1 hz1
    generalize H1 = H at hP hS ⊢
    replace hf := ob_bool hf
    obtain ⟨hz_23, hf⟩ := hf
    replace hf := ob_t14 hf
    obtain ⟨ee0, ee1, ee2, ee3, ee4, ee5, ee6, ee7, ee8, ee9, ee10, ee11, ee12, ee13⟩ := hf
    subst ee0
    subst ee1
    subst ee2
    subst ee3
    subst ee4
    subst ee5
    subst ee6
    subst ee7
    subst ee8
    subst ee9
    subst ee10
    subst ee11
    subst ee12
    subst ee13
    exact W.zret hx hb hr hz_23 (fun t ht hW => ⟨⟨_, (), rfl, rfl, by rw [ht]; exact hP, va_K.moved hW.alike hK, hD⟩, hS.F ht⟩) hS.2.2 dX6_lift_28
  · replace hf := ob_neg c_4 hf
    refine lv_aload_n hx hb dX6_lift_10 rfl (lv_at hl 1 rfl) ?_
    refine lv_iload_n hx hb dX6_lift_11 rfl (lv_at hl 0 rfl) ?_
    replace hf := ob_b hf
    obtain ⟨⟨zr_24, k_status_25⟩, hc_26, hf⟩ := hf
    replace hf := ob_un2 hf
    have hPc := hP.sub (ws' := [(a_t, .inr (6, [.ref a_lines, .ref a_chart, .ref a_trial, .ref a_log, .ref a_shelves, .ref a_shown, .int k_shownCount, .int k_status, .int k_whyStep, .int k_whyReason, .int k_whyBarge, z_search, z_plan]))]) [0] rfl
    have hDc := hD.sub (ws' := [(a_t, .inr (6, [.ref a_lines, .ref a_chart, .ref a_trial, .ref a_log, .ref a_shelves, .ref a_shown, .int k_shownCount, .int k_status, .int k_whyStep, .int k_whyReason, .int k_whyBarge, z_search, z_plan]))]) [0] (by decide) rfl
    have hFc := va_free (wc := [(a_t, .inr (6, [.ref a_lines, .ref a_chart, .ref a_trial, .ref a_log, .ref a_shelves, .ref a_shown, .int k_shownCount, .int k_status, .int k_whyStep, .int k_whyReason, .int k_whyBarge, z_search, z_plan]))]) hD hS hA [0] rfl
    refine va_calli (va_runV (As := [.int r_1]) (rest := []) ⟨hx, hb, hml, hown, hts⟩ (c_f_BargeBasin_deny l D cT H.size a_t a_lines a_chart a_trial a_log a_shelves a_shown z_search z_plan k_shownCount k_status k_whyStep k_whyReason k_whyBarge r_1 _ _ hc_26) (cwV 1 hts gX6_lift_X6_deny rfl rfl rfl (by decide +kernel) ⟨Nat.le_of_ble_eq_true rfl, Nat.le_of_ble_eq_true rfl⟩) ⟨fun a U g mk q => by obtain ⟨q0, q1, qP, qK, qN, qD⟩ := q; exact ⟨q0, q1, qP, va_K.moved (u := U) (U := U.calling g mk a) (Vm.Alike.refl U.vm) qK, jNw_same (u := U) (U := U.calling g mk a) rfl qN, qD⟩, va_recv hK hP (ci := 6) (q0 := 0) rfl rfl, fun U hU hW => ⟨rfl, by rw [hU], by rw [hU]; exact hPc, va_K.moved hW.alike hK, jNw_warm hW hN, hDc.weaken (fun _ _ _ _ => trivial)⟩⟩ rfl rfl hl.1 rfl (lv_room (Nat.le_of_ble_eq_true rfl)) dX6_lift_12 ⟨Nat.le_of_ble_eq_true rfl, Nat.le_of_ble_eq_true rfl⟩) hS (fun q _ h => hFc q h) hFc (fun r_24 u t H1 locs ht hvm er_27 hB hz1 hk1 hS => ?_)
    subst er_27
    obtain ⟨hP1, hK1, hD1⟩ := hB
    rw [ht] at hP1
    have hPD := va_join (wr := [(a_chart, .inr (0, [.int k_chart_width, .int k_chart_height, .int k_chart_barges, .long k_chart_walls, .long k_chart_taken, .ref a_chart_kind, .ref a_chart_place, .ref a_chart_length, .ref a_chart_gate, .ref a_chart_across, .ref a_chart_wide, .ref a_chart_high, .ref a_chart_shape])), (a_chart_kind, .inl (cT 0, 12, .inl k_chart_kind)), (a_chart_place, .inl (cT 0, 12, .inl k_chart_place)), (a_chart_length, .inl (cT 0, 12, .inl k_chart_length)), (a_chart_gate, .inl (cT 0, 12, .inl k_chart_gate)), (a_chart_across, .inl (cT 2, 12, .inl k_chart_across)), (a_chart_wide, .inl (cT 0, 12, .inl k_chart_wide)), (a_chart_high, .inl (cT 0, 12, .inl k_chart_high)), (a_chart_shape, .inl (cT 1, 12, .inr (.inl k_chart_shape))), (a_log, .inr (3, [.ref a_log_moves, .int k_log_first, .int k_log_done, .int k_log_undone]))]) (w1 := [(a_t, .inr (6, [.ref a_lines, .ref a_chart, .ref a_trial, .ref a_log, .ref a_shelves, .ref a_shown, .int k_shownCount, .int k_status_25, .int k_whyStep, .int k_whyReason, .int k_whyBarge, z_search, z_plan]))]) hP hD [0] [1, 2, 3, 4, 5, 6, 7, 8, 9, 10] rfl rfl (by decide) (by decide) hk1 hFc hP1 hD1
    clear hP hD
    obtain ⟨hP, hD⟩ := hPD
    replace hP := hP.sub (ws' := [(a_t, .inr (6, [.ref a_lines, .ref a_chart, .ref a_trial, .ref a_log, .ref a_shelves, .ref a_shown, .int k_shownCount, .int k_status_25, .int k_whyStep, .int k_whyReason, .int k_whyBarge, z_search, z_plan])), (a_chart, .inr (0, [.int k_chart_width, .int k_chart_height, .int k_chart_barges, .long k_chart_walls, .long k_chart_taken, .ref a_chart_kind, .ref a_chart_place, .ref a_chart_length, .ref a_chart_gate, .ref a_chart_across, .ref a_chart_wide, .ref a_chart_high, .ref a_chart_shape])), (a_chart_kind, .inl (cT 0, 12, .inl k_chart_kind)), (a_chart_place, .inl (cT 0, 12, .inl k_chart_place)), (a_chart_length, .inl (cT 0, 12, .inl k_chart_length)), (a_chart_gate, .inl (cT 0, 12, .inl k_chart_gate)), (a_chart_across, .inl (cT 2, 12, .inl k_chart_across)), (a_chart_wide, .inl (cT 0, 12, .inl k_chart_wide)), (a_chart_high, .inl (cT 0, 12, .inl k_chart_high)), (a_chart_shape, .inl (cT 1, 12, .inr (.inl k_chart_shape))), (a_log, .inr (3, [.ref a_log_moves, .int k_log_first, .int k_log_done, .int k_log_undone]))]) [10, 0, 1, 2, 3, 4, 5, 6, 7, 8, 9] rfl
    replace hD := hD.sub (ws' := [(a_t, .inr (6, [.ref a_lines, .ref a_chart, .ref a_trial, .ref a_log, .ref a_shelves, .ref a_shown, .int k_shownCount, .int k_status_25, .int k_whyStep, .int k_whyReason, .int k_whyBarge, z_search, z_plan])), (a_chart, .inr (0, [.int k_chart_width, .int k_chart_height, .int k_chart_barges, .long k_chart_walls, .long k_chart_taken, .ref a_chart_kind, .ref a_chart_place, .ref a_chart_length, .ref a_chart_gate, .ref a_chart_across, .ref a_chart_wide, .ref a_chart_high, .ref a_chart_shape])), (a_chart_kind, .inl (cT 0, 12, .inl k_chart_kind)), (a_chart_place, .inl (cT 0, 12, .inl k_chart_place)), (a_chart_length, .inl (cT 0, 12, .inl k_chart_length)), (a_chart_gate, .inl (cT 0, 12, .inl k_chart_gate)), (a_chart_across, .inl (cT 2, 12, .inl k_chart_across)), (a_chart_wide, .inl (cT 0, 12, .inl k_chart_wide)), (a_chart_high, .inl (cT 0, 12, .inl k_chart_high)), (a_chart_shape, .inl (cT 1, 12, .inr (.inl k_chart_shape))), (a_log, .inr (3, [.ref a_log_moves, .int k_log_first, .int k_log_done, .int k_log_undone]))]) [10, 0, 1, 2, 3, 4, 5, 6, 7, 8, 9] (by decide) rfl
    clear hPc hDc hFc hP1 hK1 hD1 hk1 hz1
    generalize H1 = H at hP hS ⊢
    replace hf := ob_bool hf
    obtain ⟨hz_28, hf⟩ := hf
    replace hf := ob_t14 hf
    obtain ⟨ee0, ee1, ee2, ee3, ee4, ee5, ee6, ee7, ee8, ee9, ee10, ee11, ee12, ee13⟩ := hf
    subst ee0
    subst ee1
    subst ee2
    subst ee3
    subst ee4
    subst ee5
    subst ee6
    subst ee7
    subst ee8
    subst ee9
    subst ee10
    subst ee11
    subst ee12
    subst ee13
    exact W.zret hx hb hr hz_28 (fun t ht hW => ⟨⟨_, (), rfl, rfl, by rw [ht]; exact hP, va_K.moved hW.alike hK, hD⟩, hS.F ht⟩) hS.2.2 dX6_lift_15
theorem iw_wsX6_lies_X6 : ∀ w ∈ wsX60, w ∈ wsX6_lies := fun _ h => List.mem_cons_of_mem _ (List.mem_append_left _ (List.mem_append_right _ h))
theorem iw_wsX6_lies_X0 : ∀ w ∈ wsX00, w ∈ wsX6_lies := fun _ h => List.mem_cons_of_mem _ (List.mem_append_right _ h)
abbrev rm_BargeBasin_lies : Room := { frames := 2, cells := 0, slots := 0, locals := 41 }
set_option maxHeartbeats 4000000 in
set_option maxRecDepth 100000 in
theorem c_f_BargeBasin_lies (l : Launch) (D : va_G) (cT : Nat → ClassId) (sz : Nat) (a_t a_lines a_chart a_trial a_log a_shelves a_shown a_chart_kind a_chart_place a_chart_length a_chart_gate a_chart_across a_chart_wide a_chart_high a_chart_shape : Nat) (z_search z_plan : Value) (k_shownCount : Int32) (k_status : Int32) (k_whyStep : Int32) (k_whyReason : Int32) (k_whyBarge : Int32) (k_chart_width : Int32) (k_chart_height : Int32) (k_chart_barges : Int32) (k_chart_walls : Int64) (k_chart_taken : Int64) (k_chart_kind : Nat → Int32) (k_chart_place : Nat → Int32) (k_chart_length : Nat → Int32) (k_chart_gate : Nat → Int32) (k_chart_across : Nat → Int32) (v1 : Int32) (v2 : Int32) (r0 : Int32) (k_status₉ : Int32) (hf : f_BargeBasin_lies v1 v2 k_status k_chart_width k_chart_barges k_chart_kind k_chart_place k_chart_length k_chart_gate k_chart_across = some (r0, k_status₉)) : Met l yX6_lies wsX6_lies rm_BargeBasin_lies (va_Pc [.ref a_t, .int v1, .int v2] (fun U => U.heap.size = sz ∧ va_P D vwCl [(a_t, .inr (6, [.ref a_lines, .ref a_chart, .ref a_trial, .ref a_log, .ref a_shelves, .ref a_shown, .int k_shownCount, .int k_status, .int k_whyStep, .int k_whyReason, .int k_whyBarge, z_search, z_plan])), (a_chart, .inr (0, [.int k_chart_width, .int k_chart_height, .int k_chart_barges, .long k_chart_walls, .long k_chart_taken, .ref a_chart_kind, .ref a_chart_place, .ref a_chart_length, .ref a_chart_gate, .ref a_chart_across, .ref a_chart_wide, .ref a_chart_high, .ref a_chart_shape])), (a_chart_kind, .inl (cT 0, 12, .inl k_chart_kind)), (a_chart_place, .inl (cT 0, 12, .inl k_chart_place)), (a_chart_length, .inl (cT 0, 12, .inl k_chart_length)), (a_chart_gate, .inl (cT 0, 12, .inl k_chart_gate)), (a_chart_across, .inl (cT 2, 12, .inl k_chart_across))] U.heap ∧ va_K D vwCl (jT cT) U ∧ jNw U ∧ va_D (fun _ => True) [(a_t, .inr (6, [.ref a_lines, .ref a_chart, .ref a_trial, .ref a_log, .ref a_shelves, .ref a_shown, .int k_shownCount, .int k_status, .int k_whyStep, .int k_whyReason, .int k_whyBarge, z_search, z_plan])), (a_chart, .inr (0, [.int k_chart_width, .int k_chart_height, .int k_chart_barges, .long k_chart_walls, .long k_chart_taken, .ref a_chart_kind, .ref a_chart_place, .ref a_chart_length, .ref a_chart_gate, .ref a_chart_across, .ref a_chart_wide, .ref a_chart_high, .ref a_chart_shape])), (a_chart_kind, .inl (cT 0, 12, .inl k_chart_kind)), (a_chart_place, .inl (cT 0, 12, .inl k_chart_place)), (a_chart_length, .inl (cT 0, 12, .inl k_chart_length)), (a_chart_gate, .inl (cT 0, 12, .inl k_chart_gate)), (a_chart_across, .inl (cT 2, 12, .inl k_chart_across))])) (va_Qi (fun r (_ : Unit) => r = r0) (fun (_ : Unit) t => va_P D vwCl [(a_t, .inr (6, [.ref a_lines, .ref a_chart, .ref a_trial, .ref a_log, .ref a_shelves, .ref a_shown, .int k_shownCount, .int k_status₉, .int k_whyStep, .int k_whyReason, .int k_whyBarge, z_search, z_plan])), (a_chart, .inr (0, [.int k_chart_width, .int k_chart_height, .int k_chart_barges, .long k_chart_walls, .long k_chart_taken, .ref a_chart_kind, .ref a_chart_place, .ref a_chart_length, .ref a_chart_gate, .ref a_chart_across, .ref a_chart_wide, .ref a_chart_high, .ref a_chart_shape])), (a_chart_kind, .inl (cT 0, 12, .inl k_chart_kind)), (a_chart_place, .inl (cT 0, 12, .inl k_chart_place)), (a_chart_length, .inl (cT 0, 12, .inl k_chart_length)), (a_chart_gate, .inl (cT 0, 12, .inl k_chart_gate)), (a_chart_across, .inl (cT 2, 12, .inl k_chart_across))] t.heap ∧ va_K D vwCl (jT cT) t ∧ va_D (va_A [(a_t, .inr (6, [.ref a_lines, .ref a_chart, .ref a_trial, .ref a_log, .ref a_shelves, .ref a_shown, .int k_shownCount, .int k_status, .int k_whyStep, .int k_whyReason, .int k_whyBarge, z_search, z_plan])), (a_chart, .inr (0, [.int k_chart_width, .int k_chart_height, .int k_chart_barges, .long k_chart_walls, .long k_chart_taken, .ref a_chart_kind, .ref a_chart_place, .ref a_chart_length, .ref a_chart_gate, .ref a_chart_across, .ref a_chart_wide, .ref a_chart_high, .ref a_chart_shape])), (a_chart_kind, .inl (cT 0, 12, .inl k_chart_kind)), (a_chart_place, .inl (cT 0, 12, .inl k_chart_place)), (a_chart_length, .inl (cT 0, 12, .inl k_chart_length)), (a_chart_gate, .inl (cT 0, 12, .inl k_chart_gate)), (a_chart_across, .inl (cT 2, 12, .inl k_chart_across))] sz) [(a_t, .inr (6, [.ref a_lines, .ref a_chart, .ref a_trial, .ref a_log, .ref a_shelves, .ref a_shown, .int k_shownCount, .int k_status₉, .int k_whyStep, .int k_whyReason, .int k_whyBarge, z_search, z_plan])), (a_chart, .inr (0, [.int k_chart_width, .int k_chart_height, .int k_chart_barges, .long k_chart_walls, .long k_chart_taken, .ref a_chart_kind, .ref a_chart_place, .ref a_chart_length, .ref a_chart_gate, .ref a_chart_across, .ref a_chart_wide, .ref a_chart_high, .ref a_chart_shape])), (a_chart_kind, .inl (cT 0, 12, .inl k_chart_kind)), (a_chart_place, .inl (cT 0, 12, .inl k_chart_place)), (a_chart_length, .inl (cT 0, 12, .inl k_chart_length)), (a_chart_gate, .inl (cT 0, 12, .inl k_chart_gate)), (a_chart_across, .inl (cT 2, 12, .inl k_chart_across))]) (va_A [(a_t, .inr (6, [.ref a_lines, .ref a_chart, .ref a_trial, .ref a_log, .ref a_shelves, .ref a_shown, .int k_shownCount, .int k_status, .int k_whyStep, .int k_whyReason, .int k_whyBarge, z_search, z_plan])), (a_chart, .inr (0, [.int k_chart_width, .int k_chart_height, .int k_chart_barges, .long k_chart_walls, .long k_chart_taken, .ref a_chart_kind, .ref a_chart_place, .ref a_chart_length, .ref a_chart_gate, .ref a_chart_across, .ref a_chart_wide, .ref a_chart_high, .ref a_chart_shape])), (a_chart_kind, .inl (cT 0, 12, .inl k_chart_kind)), (a_chart_place, .inl (cT 0, 12, .inl k_chart_place)), (a_chart_length, .inl (cT 0, 12, .inl k_chart_length)), (a_chart_gate, .inl (cT 0, 12, .inl k_chart_gate)), (a_chart_across, .inl (cT 2, 12, .inl k_chart_across))] sz)) 0 0 (va_A [(a_t, .inr (6, [.ref a_lines, .ref a_chart, .ref a_trial, .ref a_log, .ref a_shelves, .ref a_shown, .int k_shownCount, .int k_status, .int k_whyStep, .int k_whyReason, .int k_whyBarge, z_search, z_plan])), (a_chart, .inr (0, [.int k_chart_width, .int k_chart_height, .int k_chart_barges, .long k_chart_walls, .long k_chart_taken, .ref a_chart_kind, .ref a_chart_place, .ref a_chart_length, .ref a_chart_gate, .ref a_chart_across, .ref a_chart_wide, .ref a_chart_high, .ref a_chart_shape])), (a_chart_kind, .inl (cT 0, 12, .inl k_chart_kind)), (a_chart_place, .inl (cT 0, 12, .inl k_chart_place)), (a_chart_length, .inl (cT 0, 12, .inl k_chart_length)), (a_chart_gate, .inl (cT 0, 12, .inl k_chart_gate)), (a_chart_across, .inl (cT 2, 12, .inl k_chart_across))] sz) := by
  refine Met.ofW (cc := cX6_lies) (maxL := 4) (ret := (some .int)) (by decide) rfl ?_
  intro p e s m args below meth c s₁ B hml hv
  obtain ⟨rfl, hsz, hP, hK, hN, hD0⟩ := hv
  have hx := B.exec
  have hb := B.bytes
  have hr := B.returns
  have hts := atoms_spec (ws := wsX6_lies) B.pre
  have hown : s.vm.findClass RX6 = some m.cls := findClass_of_methodNamed B.named
  have hlocks := B.notSynchronized
  subst hsz
  have hD := hD0.self (sz := s.heap.size)
  clear hD0
  generalize hAe : va_A [(a_t, .inr (6, [.ref a_lines, .ref a_chart, .ref a_trial, .ref a_log, .ref a_shelves, .ref a_shown, .int k_shownCount, .int k_status, .int k_whyStep, .int k_whyReason, .int k_whyBarge, z_search, z_plan])), (a_chart, .inr (0, [.int k_chart_width, .int k_chart_height, .int k_chart_barges, .long k_chart_walls, .long k_chart_taken, .ref a_chart_kind, .ref a_chart_place, .ref a_chart_length, .ref a_chart_gate, .ref a_chart_across, .ref a_chart_wide, .ref a_chart_high, .ref a_chart_shape])), (a_chart_kind, .inl (cT 0, 12, .inl k_chart_kind)), (a_chart_place, .inl (cT 0, 12, .inl k_chart_place)), (a_chart_length, .inl (cT 0, 12, .inl k_chart_length)), (a_chart_gate, .inl (cT 0, 12, .inl k_chart_gate)), (a_chart_across, .inl (cT 2, 12, .inl k_chart_across))] s.heap.size = A at hD ⊢
  have hA : ∀ q : Nat, s.heap.size ≤ q → A q := fun q h => by rw [← hAe]; exact Or.inr h
  clear hAe
  have hl := lv_entry ([.ref a_t, .int v1, .int v2]) (n := 4) (Nat.le_of_ble_eq_true rfl)
  rw [lg_entry_eq]
  generalize (lg_sl ([.ref a_t, .int v1, .int v2]) ++ List.replicate (4 - (lg_sl ([.ref a_t, .int v1, .int v2])).length) Slot.unset).toArray = ls at hl ⊢
  have hl : lv_has ls 4 [(0, .ref a_t), (1, .int v1), (2, .int v2)] := hl
  refine j_nameQ (fun Q hQ => ?_)
  have J56 : ∀ (k_status : Int32), f_BargeBasin_lies_J56 v1 v2 k_status k_chart_kind k_chart_place k_chart_length k_chart_gate k_chart_across = some (r0, k_status₉) → ∀ (H : Heap) (locs : List Loc), va_P D vwCl [(a_t, .inr (6, [.ref a_lines, .ref a_chart, .ref a_trial, .ref a_log, .ref a_shelves, .ref a_shown, .int k_shownCount, .int k_status, .int k_whyStep, .int k_whyReason, .int k_whyBarge, z_search, z_plan])), (a_chart, .inr (0, [.int k_chart_width, .int k_chart_height, .int k_chart_barges, .long k_chart_walls, .long k_chart_taken, .ref a_chart_kind, .ref a_chart_place, .ref a_chart_length, .ref a_chart_gate, .ref a_chart_across, .ref a_chart_wide, .ref a_chart_high, .ref a_chart_shape])), (a_chart_kind, .inl (cT 0, 12, .inl k_chart_kind)), (a_chart_place, .inl (cT 0, 12, .inl k_chart_place)), (a_chart_length, .inl (cT 0, 12, .inl k_chart_length)), (a_chart_gate, .inl (cT 0, 12, .inl k_chart_gate)), (a_chart_across, .inl (cT 2, 12, .inl k_chart_across))] H → va_D A [(a_t, .inr (6, [.ref a_lines, .ref a_chart, .ref a_trial, .ref a_log, .ref a_shelves, .ref a_shown, .int k_shownCount, .int k_status, .int k_whyStep, .int k_whyReason, .int k_whyBarge, z_search, z_plan])), (a_chart, .inr (0, [.int k_chart_width, .int k_chart_height, .int k_chart_barges, .long k_chart_walls, .long k_chart_taken, .ref a_chart_kind, .ref a_chart_place, .ref a_chart_length, .ref a_chart_gate, .ref a_chart_across, .ref a_chart_wide, .ref a_chart_high, .ref a_chart_shape])), (a_chart_kind, .inl (cT 0, 12, .inl k_chart_kind)), (a_chart_place, .inl (cT 0, 12, .inl k_chart_place)), (a_chart_length, .inl (cT 0, 12, .inl k_chart_length)), (a_chart_gate, .inl (cT 0, 12, .inl k_chart_gate)), (a_chart_across, .inl (cT 2, 12, .inl k_chart_across))] → va_S A s.heap H locs → ∀ (ls : Array Slot), lv_has ls 4 [(0, .ref a_t), (1, .int v1), (2, .int v2)] → W p l e (headSpec wsX6_lies rm_BargeBasin_lies).room s m ([.ref a_t, .int v1, .int v2] : List Value).toArray below meth c H locs 0 0 Q (F0 m 56 ls []) := by
    intro k_status hf H locs hP hD hS ls hl
    unfold f_BargeBasin_lies_J56 at hf
    refine lv_aload_n hx hb dX6_lies_56 rfl (lv_at hl 0 rfl) ?_
    refine lv_aload_n hx hb dX6_lies_57 rfl (lv_at hl 0 rfl) ?_
    refine va_get (D := D) (ci := 6) (v := .ref a_chart) (C := RX6) (T := TX6) (N := 13) hx hb hts iw_wsX6_lies_X6 hown hK hP 0 rfl rfl 1 (by decide) (hts (.fieldLink RX6 19 "BargeBasin" "chart" "LBargeBasin$Chart;") (List.mem_of_getElem? (i := 1) (by decide +kernel))) (fun _ h9 => h9) rfl dX6_lies_58 ?_
    refine lv_iload_n hx hb dX6_lies_61 rfl (lv_at hl 1 rfl) ?_
    refine lv_iload_n hx hb dX6_lies_62 rfl (lv_at hl 2 rfl) ?_
    replace hf := ob_b hf
    obtain ⟨zr_12, hc_13, hf⟩ := hf
    refine vp_callSi (W.runV (As := [.int v1, .int v2]) (rest := [.ref a_t]) ⟨hx, hb, hml, hown, hts⟩ (c_f_Chart_detail l D cT a_chart a_chart_kind a_chart_place a_chart_length a_chart_gate a_chart_across a_chart_wide a_chart_high a_chart_shape k_chart_width k_chart_height k_chart_barges k_chart_walls k_chart_taken k_chart_kind k_chart_place k_chart_length k_chart_gate k_chart_across v1 v2 _ hc_13) (cwV 2 hts gX6_lies_X0_detail rfl rfl rfl (by decide +kernel) ⟨Nat.le_of_ble_eq_true rfl, Nat.le_of_ble_eq_true rfl⟩) ⟨fun a U g mk q => by obtain ⟨q0, qP, qK, qN⟩ := q; exact ⟨q0, qP, va_K.moved (u := U) (U := U.calling g mk a) (Vm.Alike.refl U.vm) qK, jNw_same (u := U) (U := U.calling g mk a) rfl qN⟩, va_recv hK hP (ci := 0) (q0 := 1) rfl rfl, fun U hU hW => ⟨rfl, by rw [hU]; exact hP.sub [1, 2, 3, 4, 5, 6] rfl, va_K.moved hW.alike hK, jNw_warm hW hN⟩⟩ rfl rfl hl.1 rfl (lv_room (Nat.le_of_ble_eq_true rfl)) dX6_lies_63 ⟨Nat.le_of_ble_eq_true rfl, Nat.le_of_ble_eq_true rfl⟩) (fun r_12 er_14 => ?_)
    subst er_14
    replace hf := ob_b hf
    obtain ⟨⟨zr_15, k_status_16⟩, hc_17, hf⟩ := hf
    replace hf := ob_un2 hf
    have hPc := hP.sub (ws' := [(a_t, .inr (6, [.ref a_lines, .ref a_chart, .ref a_trial, .ref a_log, .ref a_shelves, .ref a_shown, .int k_shownCount, .int k_status, .int k_whyStep, .int k_whyReason, .int k_whyBarge, z_search, z_plan]))]) [0] rfl
    have hDc := hD.sub (ws' := [(a_t, .inr (6, [.ref a_lines, .ref a_chart, .ref a_trial, .ref a_log, .ref a_shelves, .ref a_shown, .int k_shownCount, .int k_status, .int k_whyStep, .int k_whyReason, .int k_whyBarge, z_search, z_plan]))]) [0] (by decide) rfl
    have hFc := va_free (wc := [(a_t, .inr (6, [.ref a_lines, .ref a_chart, .ref a_trial, .ref a_log, .ref a_shelves, .ref a_shown, .int k_shownCount, .int k_status, .int k_whyStep, .int k_whyReason, .int k_whyBarge, z_search, z_plan]))]) hD hS hA [0] rfl
    refine va_calli (va_runV (As := [.int r_12]) (rest := []) ⟨hx, hb, hml, hown, hts⟩ (c_f_BargeBasin_answer l D cT H.size a_t a_lines a_chart a_trial a_log a_shelves a_shown z_search z_plan k_shownCount k_status k_whyStep k_whyReason k_whyBarge r_12 _ _ hc_17) (cwV 1 hts gX6_lies_X6_answer rfl rfl rfl (by decide +kernel) ⟨Nat.le_of_ble_eq_true rfl, Nat.le_of_ble_eq_true rfl⟩) ⟨fun a U g mk q => by obtain ⟨q0, q1, qP, qK, qN, qD⟩ := q; exact ⟨q0, q1, qP, va_K.moved (u := U) (U := U.calling g mk a) (Vm.Alike.refl U.vm) qK, jNw_same (u := U) (U := U.calling g mk a) rfl qN, qD⟩, va_recv hK hP (ci := 6) (q0 := 0) rfl rfl, fun U hU hW => ⟨rfl, by rw [hU], by rw [hU]; exact hPc, va_K.moved hW.alike hK, jNw_warm hW hN, hDc.weaken (fun _ _ _ _ => trivial)⟩⟩ rfl rfl hl.1 rfl (lv_room (Nat.le_of_ble_eq_true rfl)) dX6_lies_66 ⟨Nat.le_of_ble_eq_true rfl, Nat.le_of_ble_eq_true rfl⟩) hS (fun q _ h => hFc q h) hFc (fun r_15 u t H1 locs ht hvm er_18 hB hz1 hk1 hS => ?_)
    subst er_18
    obtain ⟨hP1, hK1, hD1⟩ := hB
    rw [ht] at hP1
    have hPD := va_join (wr := [(a_chart, .inr (0, [.int k_chart_width, .int k_chart_height, .int k_chart_barges, .long k_chart_walls, .long k_chart_taken, .ref a_chart_kind, .ref a_chart_place, .ref a_chart_length, .ref a_chart_gate, .ref a_chart_across, .ref a_chart_wide, .ref a_chart_high, .ref a_chart_shape])), (a_chart_kind, .inl (cT 0, 12, .inl k_chart_kind)), (a_chart_place, .inl (cT 0, 12, .inl k_chart_place)), (a_chart_length, .inl (cT 0, 12, .inl k_chart_length)), (a_chart_gate, .inl (cT 0, 12, .inl k_chart_gate)), (a_chart_across, .inl (cT 2, 12, .inl k_chart_across))]) (w1 := [(a_t, .inr (6, [.ref a_lines, .ref a_chart, .ref a_trial, .ref a_log, .ref a_shelves, .ref a_shown, .int k_shownCount, .int k_status_16, .int k_whyStep, .int k_whyReason, .int k_whyBarge, z_search, z_plan]))]) hP hD [0] [1, 2, 3, 4, 5, 6] rfl rfl (by decide) (by decide) hk1 hFc hP1 hD1
    clear hP hD
    obtain ⟨hP, hD⟩ := hPD
    replace hP := hP.sub (ws' := [(a_t, .inr (6, [.ref a_lines, .ref a_chart, .ref a_trial, .ref a_log, .ref a_shelves, .ref a_shown, .int k_shownCount, .int k_status_16, .int k_whyStep, .int k_whyReason, .int k_whyBarge, z_search, z_plan])), (a_chart, .inr (0, [.int k_chart_width, .int k_chart_height, .int k_chart_barges, .long k_chart_walls, .long k_chart_taken, .ref a_chart_kind, .ref a_chart_place, .ref a_chart_length, .ref a_chart_gate, .ref a_chart_across, .ref a_chart_wide, .ref a_chart_high, .ref a_chart_shape])), (a_chart_kind, .inl (cT 0, 12, .inl k_chart_kind)), (a_chart_place, .inl (cT 0, 12, .inl k_chart_place)), (a_chart_length, .inl (cT 0, 12, .inl k_chart_length)), (a_chart_gate, .inl (cT 0, 12, .inl k_chart_gate)), (a_chart_across, .inl (cT 2, 12, .inl k_chart_across))]) [6, 0, 1, 2, 3, 4, 5] rfl
    replace hD := hD.sub (ws' := [(a_t, .inr (6, [.ref a_lines, .ref a_chart, .ref a_trial, .ref a_log, .ref a_shelves, .ref a_shown, .int k_shownCount, .int k_status_16, .int k_whyStep, .int k_whyReason, .int k_whyBarge, z_search, z_plan])), (a_chart, .inr (0, [.int k_chart_width, .int k_chart_height, .int k_chart_barges, .long k_chart_walls, .long k_chart_taken, .ref a_chart_kind, .ref a_chart_place, .ref a_chart_length, .ref a_chart_gate, .ref a_chart_across, .ref a_chart_wide, .ref a_chart_high, .ref a_chart_shape])), (a_chart_kind, .inl (cT 0, 12, .inl k_chart_kind)), (a_chart_place, .inl (cT 0, 12, .inl k_chart_place)), (a_chart_length, .inl (cT 0, 12, .inl k_chart_length)), (a_chart_gate, .inl (cT 0, 12, .inl k_chart_gate)), (a_chart_across, .inl (cT 2, 12, .inl k_chart_across))]) [6, 0, 1, 2, 3, 4, 5] (by decide) rfl
    clear hPc hDc hFc hP1 hK1 hD1 hk1 hz1
    generalize H1 = H at hP hS ⊢
    replace hf := ob_t2 hf
    obtain ⟨ee0, ee1⟩ := hf
    subst ee0
    subst ee1
    subst hQ
    exact W.iret hx hb hr (fun t ht hW => ⟨⟨_, (), rfl, rfl, by rw [ht]; exact hP, va_K.moved hW.alike hK, hD⟩, hS.F ht⟩) hS.2.2 dX6_lies_69
  refine j_start (A := A) hP (fun H locs hP hS => ?_)
  unfold f_BargeBasin_lies at hf
  refine lv_aload_n hx hb dX6_lies_0 rfl (lv_at hl 0 rfl) ?_
  refine lv_iload_n hx hb dX6_lies_1 rfl (lv_at hl 1 rfl) ?_
  replace hf := ob_b hf
  obtain ⟨zr_1, hc_2, hf⟩ := hf
  refine vp_callSi (W.runV (As := [.int v1]) (rest := []) ⟨hx, hb, hml, hown, hts⟩ (c_f_BargeBasin_faultOfBarge l D cT a_t a_lines a_chart a_trial a_log a_shelves a_shown a_chart_kind a_chart_place a_chart_length a_chart_gate a_chart_across a_chart_wide a_chart_high a_chart_shape z_search z_plan k_shownCount k_status k_whyStep k_whyReason k_whyBarge k_chart_width k_chart_height k_chart_barges k_chart_walls k_chart_taken v1 _ hc_2) (cwV 1 hts gX6_lies_X6_faultOfBarge rfl rfl rfl (by decide +kernel) ⟨Nat.le_of_ble_eq_true rfl, Nat.le_of_ble_eq_true rfl⟩) ⟨fun a U g mk q => by obtain ⟨q0, qP, qK, qN⟩ := q; exact ⟨q0, qP, va_K.moved (u := U) (U := U.calling g mk a) (Vm.Alike.refl U.vm) qK, jNw_same (u := U) (U := U.calling g mk a) rfl qN⟩, va_recv hK hP (ci := 6) (q0 := 0) rfl rfl, fun U hU hW => ⟨rfl, by rw [hU]; exact hP.sub [0, 1] rfl, va_K.moved hW.alike hK, jNw_warm hW hN⟩⟩ rfl rfl hl.1 rfl (lv_room (Nat.le_of_ble_eq_true rfl)) dX6_lies_2 ⟨Nat.le_of_ble_eq_true rfl, Nat.le_of_ble_eq_true rfl⟩) (fun r_1 er_3 => ?_)
  subst er_3
  refine lv_istore_n (lv' := [(3, .int r_1), (0, .ref a_t), (1, .int v1), (2, .int v2)]) hx hb dX6_lies_5 rfl hl (by decide) rfl (fun ls hl => ?_)
  refine lv_iload_n hx hb dX6_lies_6 rfl (lv_at hl 0 rfl) ?_
  refine lv_if_eq (tgt := 16) hx hb dX6_lies_7 (by decide) (fun c_4 => ?_) (fun c_4 => ?_)
  · replace hf := ob_pos c_4 hf
    refine lv_iload_n hx hb dX6_lies_16 rfl (lv_at hl 3 rfl) ?_
    refine lv_if_lt (tgt := 26) hx hb dX6_lies_17 (by decide) (fun c_5 => ?_) (fun c_5 => ?_)
    · replace hf := ob_pos c_5 hf
      refine lv_aload_n hx hb dX6_lies_26 rfl (lv_at hl 1 rfl) ?_
      refine lv_iconst (v := 2) hx hb dX6_lies_27 (by decide) ?_
      replace hf := ob_b hf
      obtain ⟨⟨zr_6, k_status_7⟩, hc_8, hf⟩ := hf
      replace hf := ob_un2 hf
      have hPc := hP.sub (ws' := [(a_t, .inr (6, [.ref a_lines, .ref a_chart, .ref a_trial, .ref a_log, .ref a_shelves, .ref a_shown, .int k_shownCount, .int k_status, .int k_whyStep, .int k_whyReason, .int k_whyBarge, z_search, z_plan]))]) [0] rfl
      have hDc := hD.sub (ws' := [(a_t, .inr (6, [.ref a_lines, .ref a_chart, .ref a_trial, .ref a_log, .ref a_shelves, .ref a_shown, .int k_shownCount, .int k_status, .int k_whyStep, .int k_whyReason, .int k_whyBarge, z_search, z_plan]))]) [0] (by decide) rfl
      have hFc := va_free (wc := [(a_t, .inr (6, [.ref a_lines, .ref a_chart, .ref a_trial, .ref a_log, .ref a_shelves, .ref a_shown, .int k_shownCount, .int k_status, .int k_whyStep, .int k_whyReason, .int k_whyBarge, z_search, z_plan]))]) hD hS hA [0] rfl
      refine va_calli (va_runV (As := [.int ((2 : Int32))]) (rest := []) ⟨hx, hb, hml, hown, hts⟩ (c_f_BargeBasin_refuse l D cT H.size a_t a_lines a_chart a_trial a_log a_shelves a_shown z_search z_plan k_shownCount k_status k_whyStep k_whyReason k_whyBarge ((2 : Int32)) _ _ hc_8) (cwV 1 hts gX6_lies_X6_refuse rfl rfl rfl (by decide +kernel) ⟨Nat.le_of_ble_eq_true rfl, Nat.le_of_ble_eq_true rfl⟩) ⟨fun a U g mk q => by obtain ⟨q0, q1, qP, qK, qN, qD⟩ := q; exact ⟨q0, q1, qP, va_K.moved (u := U) (U := U.calling g mk a) (Vm.Alike.refl U.vm) qK, jNw_same (u := U) (U := U.calling g mk a) rfl qN, qD⟩, va_recv hK hP (ci := 6) (q0 := 0) rfl rfl, fun U hU hW => ⟨rfl, by rw [hU], by rw [hU]; exact hPc, va_K.moved hW.alike hK, jNw_warm hW hN, hDc.weaken (fun _ _ _ _ => trivial)⟩⟩ rfl rfl hl.1 rfl (lv_room (Nat.le_of_ble_eq_true rfl)) dX6_lies_28 ⟨Nat.le_of_ble_eq_true rfl, Nat.le_of_ble_eq_true rfl⟩) hS (fun q _ h => hFc q h) hFc (fun r_6 u t H1 locs ht hvm er_9 hB hz1 hk1 hS => ?_)
      subst er_9
      obtain ⟨hP1, hK1, hD1⟩ := hB
      rw [ht] at hP1
      have hPD := va_join (wr := [(a_chart, .inr (0, [.int k_chart_width, .int k_chart_height, .int k_chart_barges, .long k_chart_walls, .long k_chart_taken, .ref a_chart_kind, .ref a_chart_place, .ref a_chart_length, .ref a_chart_gate, .ref a_chart_across, .ref a_chart_wide, .ref a_chart_high, .ref a_chart_shape])), (a_chart_kind, .inl (cT 0, 12, .inl k_chart_kind)), (a_chart_place, .inl (cT 0, 12, .inl k_chart_place)), (a_chart_length, .inl (cT 0, 12, .inl k_chart_length)), (a_chart_gate, .inl (cT 0, 12, .inl k_chart_gate)), (a_chart_across, .inl (cT 2, 12, .inl k_chart_across))]) (w1 := [(a_t, .inr (6, [.ref a_lines, .ref a_chart, .ref a_trial, .ref a_log, .ref a_shelves, .ref a_shown, .int k_shownCount, .int k_status_7, .int k_whyStep, .int k_whyReason, .int k_whyBarge, z_search, z_plan]))]) hP hD [0] [1, 2, 3, 4, 5, 6] rfl rfl (by decide) (by decide) hk1 hFc hP1 hD1
      clear hP hD
      obtain ⟨hP, hD⟩ := hPD
      replace hP := hP.sub (ws' := [(a_t, .inr (6, [.ref a_lines, .ref a_chart, .ref a_trial, .ref a_log, .ref a_shelves, .ref a_shown, .int k_shownCount, .int k_status_7, .int k_whyStep, .int k_whyReason, .int k_whyBarge, z_search, z_plan])), (a_chart, .inr (0, [.int k_chart_width, .int k_chart_height, .int k_chart_barges, .long k_chart_walls, .long k_chart_taken, .ref a_chart_kind, .ref a_chart_place, .ref a_chart_length, .ref a_chart_gate, .ref a_chart_across, .ref a_chart_wide, .ref a_chart_high, .ref a_chart_shape])), (a_chart_kind, .inl (cT 0, 12, .inl k_chart_kind)), (a_chart_place, .inl (cT 0, 12, .inl k_chart_place)), (a_chart_length, .inl (cT 0, 12, .inl k_chart_length)), (a_chart_gate, .inl (cT 0, 12, .inl k_chart_gate)), (a_chart_across, .inl (cT 2, 12, .inl k_chart_across))]) [6, 0, 1, 2, 3, 4, 5] rfl
      replace hD := hD.sub (ws' := [(a_t, .inr (6, [.ref a_lines, .ref a_chart, .ref a_trial, .ref a_log, .ref a_shelves, .ref a_shown, .int k_shownCount, .int k_status_7, .int k_whyStep, .int k_whyReason, .int k_whyBarge, z_search, z_plan])), (a_chart, .inr (0, [.int k_chart_width, .int k_chart_height, .int k_chart_barges, .long k_chart_walls, .long k_chart_taken, .ref a_chart_kind, .ref a_chart_place, .ref a_chart_length, .ref a_chart_gate, .ref a_chart_across, .ref a_chart_wide, .ref a_chart_high, .ref a_chart_shape])), (a_chart_kind, .inl (cT 0, 12, .inl k_chart_kind)), (a_chart_place, .inl (cT 0, 12, .inl k_chart_place)), (a_chart_length, .inl (cT 0, 12, .inl k_chart_length)), (a_chart_gate, .inl (cT 0, 12, .inl k_chart_gate)), (a_chart_across, .inl (cT 2, 12, .inl k_chart_across))]) [6, 0, 1, 2, 3, 4, 5] (by decide) rfl
      clear hPc hDc hFc hP1 hK1 hD1 hk1 hz1
      generalize H1 = H at hP hS ⊢
      replace hf := ob_t2 hf
      obtain ⟨ee0, ee1⟩ := hf
      subst ee0
      subst ee1
      subst hQ
      exact W.iret hx hb hr (fun t ht hW => ⟨⟨_, (), rfl, rfl, by rw [ht]; exact hP, va_K.moved hW.alike hK, hD⟩, hS.F ht⟩) hS.2.2 dX6_lies_31
    · replace hf := ob_neg c_5 hf
      refine lv_iload_n hx hb dX6_lies_20 rfl (lv_at hl 3 rfl) ?_
      refine lv_bipush (v := 6) hx hb dX6_lies_21 (by decide) ?_
      refine lv_icmp_le (tgt := 32) hx hb dX6_lies_23 (by decide) (fun c_10 => ?_) (fun c_10 => ?_)
      · replace hf := ob_pos c_10 hf
        refine lv_iload_n hx hb dX6_lies_32 rfl (lv_at hl 3 rfl) ?_
        refine lv_iconst (v := 5) hx hb dX6_lies_33 (by decide) ?_
        refine lv_icmp_lt (tgt := 56) hx hb dX6_lies_34 (by decide) (fun c_11 => ?_) (fun c_11 => ?_)
        · replace hf := ob_pos c_11 hf
          exact J56 _ hf _ _ hP hD hS ls (lv_sub hl [1, 2, 3] rfl)
        · replace hf := ob_neg c_11 hf
          refine lv_aload_n hx hb dX6_lies_37 rfl (lv_at hl 1 rfl) ?_
          refine va_get (D := D) (ci := 6) (v := .ref a_chart) (C := RX6) (T := TX6) (N := 13) hx hb hts iw_wsX6_lies_X6 hown hK hP 0 rfl rfl 1 (by decide) (hts (.fieldLink RX6 19 "BargeBasin" "chart" "LBargeBasin$Chart;") (List.mem_of_getElem? (i := 1) (by decide +kernel))) (fun _ h9 => h9) rfl dX6_lies_38 ?_
          refine va_get (D := D) (ci := 0) (v := .ref a_chart_kind) (C := RX0) (T := TX0) (N := 13) hx hb hts iw_wsX6_lies_X0 hown hK hP 1 rfl rfl 5 (by decide) (hts (.fieldLink RX6 150 "BargeBasin$Chart" "kind" "[I") (List.mem_of_getElem? (i := 2) (by decide +kernel))) (fun _ h9 => h9) rfl dX6_lies_41 ?_
          refine lv_iload_n hx hb dX6_lies_44 rfl (lv_at hl 2 rfl) ?_
          replace hf := ob_grd hf
          obtain ⟨hi_19, hf⟩ := hf
          refine va_iald hx hb hK hP 2 0 rfl rfl hi_19 dX6_lies_45 ?_
          refine lv_iconst (v := 5) hx hb dX6_lies_46 (by decide) ?_
          refine lv_icmp_eq (tgt := 56) hx hb dX6_lies_47 (by decide) (fun c_20 => ?_) (fun c_20 => ?_)
          · replace hf := ob_pos c_20 hf
            exact J56 _ hf _ _ hP hD hS ls (lv_sub hl [1, 2, 3] rfl)
          · replace hf := ob_neg c_20 hf
            refine lv_aload_n hx hb dX6_lies_50 rfl (lv_at hl 1 rfl) ?_
            refine lv_iconst (v := 5) hx hb dX6_lies_51 (by decide) ?_
            replace hf := ob_b hf
            obtain ⟨⟨zr_21, k_status_22⟩, hc_23, hf⟩ := hf
            replace hf := ob_un2 hf
            have hPc := hP.sub (ws' := [(a_t, .inr (6, [.ref a_lines, .ref a_chart, .ref a_trial, .ref a_log, .ref a_shelves, .ref a_shown, .int k_shownCount, .int k_status, .int k_whyStep, .int k_whyReason, .int k_whyBarge, z_search, z_plan]))]) [0] rfl
            have hDc := hD.sub (ws' := [(a_t, .inr (6, [.ref a_lines, .ref a_chart, .ref a_trial, .ref a_log, .ref a_shelves, .ref a_shown, .int k_shownCount, .int k_status, .int k_whyStep, .int k_whyReason, .int k_whyBarge, z_search, z_plan]))]) [0] (by decide) rfl
            have hFc := va_free (wc := [(a_t, .inr (6, [.ref a_lines, .ref a_chart, .ref a_trial, .ref a_log, .ref a_shelves, .ref a_shown, .int k_shownCount, .int k_status, .int k_whyStep, .int k_whyReason, .int k_whyBarge, z_search, z_plan]))]) hD hS hA [0] rfl
            refine va_calli (va_runV (As := [.int ((5 : Int32))]) (rest := []) ⟨hx, hb, hml, hown, hts⟩ (c_f_BargeBasin_refuse l D cT H.size a_t a_lines a_chart a_trial a_log a_shelves a_shown z_search z_plan k_shownCount k_status k_whyStep k_whyReason k_whyBarge ((5 : Int32)) _ _ hc_23) (cwV 1 hts gX6_lies_X6_refuse rfl rfl rfl (by decide +kernel) ⟨Nat.le_of_ble_eq_true rfl, Nat.le_of_ble_eq_true rfl⟩) ⟨fun a U g mk q => by obtain ⟨q0, q1, qP, qK, qN, qD⟩ := q; exact ⟨q0, q1, qP, va_K.moved (u := U) (U := U.calling g mk a) (Vm.Alike.refl U.vm) qK, jNw_same (u := U) (U := U.calling g mk a) rfl qN, qD⟩, va_recv hK hP (ci := 6) (q0 := 0) rfl rfl, fun U hU hW => ⟨rfl, by rw [hU], by rw [hU]; exact hPc, va_K.moved hW.alike hK, jNw_warm hW hN, hDc.weaken (fun _ _ _ _ => trivial)⟩⟩ rfl rfl hl.1 rfl (lv_room (Nat.le_of_ble_eq_true rfl)) dX6_lies_52 ⟨Nat.le_of_ble_eq_true rfl, Nat.le_of_ble_eq_true rfl⟩) hS (fun q _ h => hFc q h) hFc (fun r_21 u t H1 locs ht hvm er_24 hB hz1 hk1 hS => ?_)
            subst er_24
            obtain ⟨hP1, hK1, hD1⟩ := hB
            rw [ht] at hP1
            have hPD := va_join (wr := [(a_chart, .inr (0, [.int k_chart_width, .int k_chart_height, .int k_chart_barges, .long k_chart_walls, .long k_chart_taken, .ref a_chart_kind, .ref a_chart_place, .ref a_chart_length, .ref a_chart_gate, .ref a_chart_across, .ref a_chart_wide, .ref a_chart_high, .ref a_chart_shape])), (a_chart_kind, .inl (cT 0, 12, .inl k_chart_kind)), (a_chart_place, .inl (cT 0, 12, .inl k_chart_place)), (a_chart_length, .inl (cT 0, 12, .inl k_chart_length)), (a_chart_gate, .inl (cT 0, 12, .inl k_chart_gate)), (a_chart_across, .inl (cT 2, 12, .inl k_chart_across))]) (w1 := [(a_t, .inr (6, [.ref a_lines, .ref a_chart, .ref a_trial, .ref a_log, .ref a_shelves, .ref a_shown, .int k_shownCount, .int k_status_22, .int k_whyStep, .int k_whyReason, .int k_whyBarge, z_search, z_plan]))]) hP hD [0] [1, 2, 3, 4, 5, 6] rfl rfl (by decide) (by decide) hk1 hFc hP1 hD1
            clear hP hD
            obtain ⟨hP, hD⟩ := hPD
            replace hP := hP.sub (ws' := [(a_t, .inr (6, [.ref a_lines, .ref a_chart, .ref a_trial, .ref a_log, .ref a_shelves, .ref a_shown, .int k_shownCount, .int k_status_22, .int k_whyStep, .int k_whyReason, .int k_whyBarge, z_search, z_plan])), (a_chart, .inr (0, [.int k_chart_width, .int k_chart_height, .int k_chart_barges, .long k_chart_walls, .long k_chart_taken, .ref a_chart_kind, .ref a_chart_place, .ref a_chart_length, .ref a_chart_gate, .ref a_chart_across, .ref a_chart_wide, .ref a_chart_high, .ref a_chart_shape])), (a_chart_kind, .inl (cT 0, 12, .inl k_chart_kind)), (a_chart_place, .inl (cT 0, 12, .inl k_chart_place)), (a_chart_length, .inl (cT 0, 12, .inl k_chart_length)), (a_chart_gate, .inl (cT 0, 12, .inl k_chart_gate)), (a_chart_across, .inl (cT 2, 12, .inl k_chart_across))]) [6, 0, 1, 2, 3, 4, 5] rfl
            replace hD := hD.sub (ws' := [(a_t, .inr (6, [.ref a_lines, .ref a_chart, .ref a_trial, .ref a_log, .ref a_shelves, .ref a_shown, .int k_shownCount, .int k_status_22, .int k_whyStep, .int k_whyReason, .int k_whyBarge, z_search, z_plan])), (a_chart, .inr (0, [.int k_chart_width, .int k_chart_height, .int k_chart_barges, .long k_chart_walls, .long k_chart_taken, .ref a_chart_kind, .ref a_chart_place, .ref a_chart_length, .ref a_chart_gate, .ref a_chart_across, .ref a_chart_wide, .ref a_chart_high, .ref a_chart_shape])), (a_chart_kind, .inl (cT 0, 12, .inl k_chart_kind)), (a_chart_place, .inl (cT 0, 12, .inl k_chart_place)), (a_chart_length, .inl (cT 0, 12, .inl k_chart_length)), (a_chart_gate, .inl (cT 0, 12, .inl k_chart_gate)), (a_chart_across, .inl (cT 2, 12, .inl k_chart_across))]) [6, 0, 1, 2, 3, 4, 5] (by decide) rfl
            clear hPc hDc hFc hP1 hK1 hD1 hk1 hz1
            generalize H1 = H at hP hS ⊢
            replace hf := ob_t2 hf
            obtain ⟨ee0, ee1⟩ := hf
            subst ee0
            subst ee1
            subst hQ
            exact W.iret hx hb hr (fun t ht hW => ⟨⟨_, (), rfl, rfl, by rw [ht]; exact hP, va_K.moved hW.alike hK, hD⟩, hS.F ht⟩) hS.2.2 dX6_lies_55
      · replace hf := ob_neg c_10 hf
        refine lv_aload_n hx hb dX6_lies_26 rfl (lv_at hl 1 rfl) ?_
        refine lv_iconst (v := 2) hx hb dX6_lies_27 (by decide) ?_
        replace hf := ob_b hf
        obtain ⟨⟨zr_25, k_status_26⟩, hc_27, hf⟩ := hf
        replace hf := ob_un2 hf
        have hPc := hP.sub (ws' := [(a_t, .inr (6, [.ref a_lines, .ref a_chart, .ref a_trial, .ref a_log, .ref a_shelves, .ref a_shown, .int k_shownCount, .int k_status, .int k_whyStep, .int k_whyReason, .int k_whyBarge, z_search, z_plan]))]) [0] rfl
        have hDc := hD.sub (ws' := [(a_t, .inr (6, [.ref a_lines, .ref a_chart, .ref a_trial, .ref a_log, .ref a_shelves, .ref a_shown, .int k_shownCount, .int k_status, .int k_whyStep, .int k_whyReason, .int k_whyBarge, z_search, z_plan]))]) [0] (by decide) rfl
        have hFc := va_free (wc := [(a_t, .inr (6, [.ref a_lines, .ref a_chart, .ref a_trial, .ref a_log, .ref a_shelves, .ref a_shown, .int k_shownCount, .int k_status, .int k_whyStep, .int k_whyReason, .int k_whyBarge, z_search, z_plan]))]) hD hS hA [0] rfl
        refine va_calli (va_runV (As := [.int ((2 : Int32))]) (rest := []) ⟨hx, hb, hml, hown, hts⟩ (c_f_BargeBasin_refuse l D cT H.size a_t a_lines a_chart a_trial a_log a_shelves a_shown z_search z_plan k_shownCount k_status k_whyStep k_whyReason k_whyBarge ((2 : Int32)) _ _ hc_27) (cwV 1 hts gX6_lies_X6_refuse rfl rfl rfl (by decide +kernel) ⟨Nat.le_of_ble_eq_true rfl, Nat.le_of_ble_eq_true rfl⟩) ⟨fun a U g mk q => by obtain ⟨q0, q1, qP, qK, qN, qD⟩ := q; exact ⟨q0, q1, qP, va_K.moved (u := U) (U := U.calling g mk a) (Vm.Alike.refl U.vm) qK, jNw_same (u := U) (U := U.calling g mk a) rfl qN, qD⟩, va_recv hK hP (ci := 6) (q0 := 0) rfl rfl, fun U hU hW => ⟨rfl, by rw [hU], by rw [hU]; exact hPc, va_K.moved hW.alike hK, jNw_warm hW hN, hDc.weaken (fun _ _ _ _ => trivial)⟩⟩ rfl rfl hl.1 rfl (lv_room (Nat.le_of_ble_eq_true rfl)) dX6_lies_28 ⟨Nat.le_of_ble_eq_true rfl, Nat.le_of_ble_eq_true rfl⟩) hS (fun q _ h => hFc q h) hFc (fun r_25 u t H1 locs ht hvm er_28 hB hz1 hk1 hS => ?_)
        subst er_28
        obtain ⟨hP1, hK1, hD1⟩ := hB
        rw [ht] at hP1
        have hPD := va_join (wr := [(a_chart, .inr (0, [.int k_chart_width, .int k_chart_height, .int k_chart_barges, .long k_chart_walls, .long k_chart_taken, .ref a_chart_kind, .ref a_chart_place, .ref a_chart_length, .ref a_chart_gate, .ref a_chart_across, .ref a_chart_wide, .ref a_chart_high, .ref a_chart_shape])), (a_chart_kind, .inl (cT 0, 12, .inl k_chart_kind)), (a_chart_place, .inl (cT 0, 12, .inl k_chart_place)), (a_chart_length, .inl (cT 0, 12, .inl k_chart_length)), (a_chart_gate, .inl (cT 0, 12, .inl k_chart_gate)), (a_chart_across, .inl (cT 2, 12, .inl k_chart_across))]) (w1 := [(a_t, .inr (6, [.ref a_lines, .ref a_chart, .ref a_trial, .ref a_log, .ref a_shelves, .ref a_shown, .int k_shownCount, .int k_status_26, .int k_whyStep, .int k_whyReason, .int k_whyBarge, z_search, z_plan]))]) hP hD [0] [1, 2, 3, 4, 5, 6] rfl rfl (by decide) (by decide) hk1 hFc hP1 hD1
        clear hP hD
        obtain ⟨hP, hD⟩ := hPD
        replace hP := hP.sub (ws' := [(a_t, .inr (6, [.ref a_lines, .ref a_chart, .ref a_trial, .ref a_log, .ref a_shelves, .ref a_shown, .int k_shownCount, .int k_status_26, .int k_whyStep, .int k_whyReason, .int k_whyBarge, z_search, z_plan])), (a_chart, .inr (0, [.int k_chart_width, .int k_chart_height, .int k_chart_barges, .long k_chart_walls, .long k_chart_taken, .ref a_chart_kind, .ref a_chart_place, .ref a_chart_length, .ref a_chart_gate, .ref a_chart_across, .ref a_chart_wide, .ref a_chart_high, .ref a_chart_shape])), (a_chart_kind, .inl (cT 0, 12, .inl k_chart_kind)), (a_chart_place, .inl (cT 0, 12, .inl k_chart_place)), (a_chart_length, .inl (cT 0, 12, .inl k_chart_length)), (a_chart_gate, .inl (cT 0, 12, .inl k_chart_gate)), (a_chart_across, .inl (cT 2, 12, .inl k_chart_across))]) [6, 0, 1, 2, 3, 4, 5] rfl
        replace hD := hD.sub (ws' := [(a_t, .inr (6, [.ref a_lines, .ref a_chart, .ref a_trial, .ref a_log, .ref a_shelves, .ref a_shown, .int k_shownCount, .int k_status_26, .int k_whyStep, .int k_whyReason, .int k_whyBarge, z_search, z_plan])), (a_chart, .inr (0, [.int k_chart_width, .int k_chart_height, .int k_chart_barges, .long k_chart_walls, .long k_chart_taken, .ref a_chart_kind, .ref a_chart_place, .ref a_chart_length, .ref a_chart_gate, .ref a_chart_across, .ref a_chart_wide, .ref a_chart_high, .ref a_chart_shape])), (a_chart_kind, .inl (cT 0, 12, .inl k_chart_kind)), (a_chart_place, .inl (cT 0, 12, .inl k_chart_place)), (a_chart_length, .inl (cT 0, 12, .inl k_chart_length)), (a_chart_gate, .inl (cT 0, 12, .inl k_chart_gate)), (a_chart_across, .inl (cT 2, 12, .inl k_chart_across))]) [6, 0, 1, 2, 3, 4, 5] (by decide) rfl
        clear hPc hDc hFc hP1 hK1 hD1 hk1 hz1
        generalize H1 = H at hP hS ⊢
        replace hf := ob_t2 hf
        obtain ⟨ee0, ee1⟩ := hf
        subst ee0
        subst ee1
        subst hQ
        exact W.iret hx hb hr (fun t ht hW => ⟨⟨_, (), rfl, rfl, by rw [ht]; exact hP, va_K.moved hW.alike hK, hD⟩, hS.F ht⟩) hS.2.2 dX6_lies_31
  · replace hf := ob_neg c_4 hf
    refine lv_aload_n hx hb dX6_lies_10 rfl (lv_at hl 1 rfl) ?_
    refine lv_iload_n hx hb dX6_lies_11 rfl (lv_at hl 0 rfl) ?_
    replace hf := ob_b hf
    obtain ⟨⟨zr_29, k_status_30⟩, hc_31, hf⟩ := hf
    replace hf := ob_un2 hf
    have hPc := hP.sub (ws' := [(a_t, .inr (6, [.ref a_lines, .ref a_chart, .ref a_trial, .ref a_log, .ref a_shelves, .ref a_shown, .int k_shownCount, .int k_status, .int k_whyStep, .int k_whyReason, .int k_whyBarge, z_search, z_plan]))]) [0] rfl
    have hDc := hD.sub (ws' := [(a_t, .inr (6, [.ref a_lines, .ref a_chart, .ref a_trial, .ref a_log, .ref a_shelves, .ref a_shown, .int k_shownCount, .int k_status, .int k_whyStep, .int k_whyReason, .int k_whyBarge, z_search, z_plan]))]) [0] (by decide) rfl
    have hFc := va_free (wc := [(a_t, .inr (6, [.ref a_lines, .ref a_chart, .ref a_trial, .ref a_log, .ref a_shelves, .ref a_shown, .int k_shownCount, .int k_status, .int k_whyStep, .int k_whyReason, .int k_whyBarge, z_search, z_plan]))]) hD hS hA [0] rfl
    refine va_calli (va_runV (As := [.int r_1]) (rest := []) ⟨hx, hb, hml, hown, hts⟩ (c_f_BargeBasin_refuse l D cT H.size a_t a_lines a_chart a_trial a_log a_shelves a_shown z_search z_plan k_shownCount k_status k_whyStep k_whyReason k_whyBarge r_1 _ _ hc_31) (cwV 1 hts gX6_lies_X6_refuse rfl rfl rfl (by decide +kernel) ⟨Nat.le_of_ble_eq_true rfl, Nat.le_of_ble_eq_true rfl⟩) ⟨fun a U g mk q => by obtain ⟨q0, q1, qP, qK, qN, qD⟩ := q; exact ⟨q0, q1, qP, va_K.moved (u := U) (U := U.calling g mk a) (Vm.Alike.refl U.vm) qK, jNw_same (u := U) (U := U.calling g mk a) rfl qN, qD⟩, va_recv hK hP (ci := 6) (q0 := 0) rfl rfl, fun U hU hW => ⟨rfl, by rw [hU], by rw [hU]; exact hPc, va_K.moved hW.alike hK, jNw_warm hW hN, hDc.weaken (fun _ _ _ _ => trivial)⟩⟩ rfl rfl hl.1 rfl (lv_room (Nat.le_of_ble_eq_true rfl)) dX6_lies_12 ⟨Nat.le_of_ble_eq_true rfl, Nat.le_of_ble_eq_true rfl⟩) hS (fun q _ h => hFc q h) hFc (fun r_29 u t H1 locs ht hvm er_32 hB hz1 hk1 hS => ?_)
    subst er_32
    obtain ⟨hP1, hK1, hD1⟩ := hB
    rw [ht] at hP1
    have hPD := va_join (wr := [(a_chart, .inr (0, [.int k_chart_width, .int k_chart_height, .int k_chart_barges, .long k_chart_walls, .long k_chart_taken, .ref a_chart_kind, .ref a_chart_place, .ref a_chart_length, .ref a_chart_gate, .ref a_chart_across, .ref a_chart_wide, .ref a_chart_high, .ref a_chart_shape])), (a_chart_kind, .inl (cT 0, 12, .inl k_chart_kind)), (a_chart_place, .inl (cT 0, 12, .inl k_chart_place)), (a_chart_length, .inl (cT 0, 12, .inl k_chart_length)), (a_chart_gate, .inl (cT 0, 12, .inl k_chart_gate)), (a_chart_across, .inl (cT 2, 12, .inl k_chart_across))]) (w1 := [(a_t, .inr (6, [.ref a_lines, .ref a_chart, .ref a_trial, .ref a_log, .ref a_shelves, .ref a_shown, .int k_shownCount, .int k_status_30, .int k_whyStep, .int k_whyReason, .int k_whyBarge, z_search, z_plan]))]) hP hD [0] [1, 2, 3, 4, 5, 6] rfl rfl (by decide) (by decide) hk1 hFc hP1 hD1
    clear hP hD
    obtain ⟨hP, hD⟩ := hPD
    replace hP := hP.sub (ws' := [(a_t, .inr (6, [.ref a_lines, .ref a_chart, .ref a_trial, .ref a_log, .ref a_shelves, .ref a_shown, .int k_shownCount, .int k_status_30, .int k_whyStep, .int k_whyReason, .int k_whyBarge, z_search, z_plan])), (a_chart, .inr (0, [.int k_chart_width, .int k_chart_height, .int k_chart_barges, .long k_chart_walls, .long k_chart_taken, .ref a_chart_kind, .ref a_chart_place, .ref a_chart_length, .ref a_chart_gate, .ref a_chart_across, .ref a_chart_wide, .ref a_chart_high, .ref a_chart_shape])), (a_chart_kind, .inl (cT 0, 12, .inl k_chart_kind)), (a_chart_place, .inl (cT 0, 12, .inl k_chart_place)), (a_chart_length, .inl (cT 0, 12, .inl k_chart_length)), (a_chart_gate, .inl (cT 0, 12, .inl k_chart_gate)), (a_chart_across, .inl (cT 2, 12, .inl k_chart_across))]) [6, 0, 1, 2, 3, 4, 5] rfl
    replace hD := hD.sub (ws' := [(a_t, .inr (6, [.ref a_lines, .ref a_chart, .ref a_trial, .ref a_log, .ref a_shelves, .ref a_shown, .int k_shownCount, .int k_status_30, .int k_whyStep, .int k_whyReason, .int k_whyBarge, z_search, z_plan])), (a_chart, .inr (0, [.int k_chart_width, .int k_chart_height, .int k_chart_barges, .long k_chart_walls, .long k_chart_taken, .ref a_chart_kind, .ref a_chart_place, .ref a_chart_length, .ref a_chart_gate, .ref a_chart_across, .ref a_chart_wide, .ref a_chart_high, .ref a_chart_shape])), (a_chart_kind, .inl (cT 0, 12, .inl k_chart_kind)), (a_chart_place, .inl (cT 0, 12, .inl k_chart_place)), (a_chart_length, .inl (cT 0, 12, .inl k_chart_length)), (a_chart_gate, .inl (cT 0, 12, .inl k_chart_gate)), (a_chart_across, .inl (cT 2, 12, .inl k_chart_across))]) [6, 0, 1, 2, 3, 4, 5] (by decide) rfl
    clear hPc hDc hFc hP1 hK1 hD1 hk1 hz1
    generalize H1 = H at hP hS ⊢
    replace hf := ob_t2 hf
    obtain ⟨ee0, ee1⟩ := hf
    subst ee0
    subst ee1
    subst hQ
    exact W.iret hx hb hr (fun t ht hW => ⟨⟨_, (), rfl, rfl, by rw [ht]; exact hP, va_K.moved hW.alike hK, hD⟩, hS.F ht⟩) hS.2.2 dX6_lies_15
theorem iw_wsX6_field_X6 : ∀ w ∈ wsX60, w ∈ wsX6_field := fun _ h => List.mem_cons_of_mem _ (List.mem_append_left _ (List.mem_append_right _ h))
theorem iw_wsX6_field_X0 : ∀ w ∈ wsX00, w ∈ wsX6_field := fun _ h => List.mem_cons_of_mem _ (List.mem_append_right _ h)
abbrev rm_BargeBasin_field : Room := { frames := 3, cells := 0, slots := 0, locals := 68 }
set_option maxHeartbeats 4000000 in
set_option maxRecDepth 100000 in
theorem c_f_BargeBasin_field (l : Launch) (D : va_G) (cT : Nat → ClassId) (sz : Nat) (a_t a_lines a_chart a_trial a_log a_shelves a_shown a_chart_kind a_chart_place a_chart_length a_chart_gate a_chart_across a_chart_wide a_chart_high a_chart_shape : Nat) (z_search z_plan : Value) (k_shownCount : Int32) (k_status : Int32) (k_whyStep : Int32) (k_whyReason : Int32) (k_whyBarge : Int32) (k_chart_width : Int32) (k_chart_height : Int32) (k_chart_barges : Int32) (k_chart_walls : Int64) (k_chart_taken : Int64) (k_chart_place : Nat → Int32) (k_chart_shape : Nat → Int64) (v1 : Int32) (v2 : Int32) (r0 : Int32) (k_status₉ : Int32) (hf : f_BargeBasin_field v1 v2 k_status k_chart_width k_chart_height k_chart_barges k_chart_walls k_chart_place k_chart_shape = some (r0, k_status₉)) : Met l yX6_field wsX6_field rm_BargeBasin_field (va_Pc [.ref a_t, .int v1, .int v2] (fun U => U.heap.size = sz ∧ va_P D vwCl [(a_t, .inr (6, [.ref a_lines, .ref a_chart, .ref a_trial, .ref a_log, .ref a_shelves, .ref a_shown, .int k_shownCount, .int k_status, .int k_whyStep, .int k_whyReason, .int k_whyBarge, z_search, z_plan])), (a_chart, .inr (0, [.int k_chart_width, .int k_chart_height, .int k_chart_barges, .long k_chart_walls, .long k_chart_taken, .ref a_chart_kind, .ref a_chart_place, .ref a_chart_length, .ref a_chart_gate, .ref a_chart_across, .ref a_chart_wide, .ref a_chart_high, .ref a_chart_shape])), (a_chart_place, .inl (cT 0, 12, .inl k_chart_place)), (a_chart_shape, .inl (cT 1, 12, .inr (.inl k_chart_shape)))] U.heap ∧ va_K D vwCl (jT cT) U ∧ jNw U ∧ va_D (fun _ => True) [(a_t, .inr (6, [.ref a_lines, .ref a_chart, .ref a_trial, .ref a_log, .ref a_shelves, .ref a_shown, .int k_shownCount, .int k_status, .int k_whyStep, .int k_whyReason, .int k_whyBarge, z_search, z_plan])), (a_chart, .inr (0, [.int k_chart_width, .int k_chart_height, .int k_chart_barges, .long k_chart_walls, .long k_chart_taken, .ref a_chart_kind, .ref a_chart_place, .ref a_chart_length, .ref a_chart_gate, .ref a_chart_across, .ref a_chart_wide, .ref a_chart_high, .ref a_chart_shape])), (a_chart_place, .inl (cT 0, 12, .inl k_chart_place)), (a_chart_shape, .inl (cT 1, 12, .inr (.inl k_chart_shape)))])) (va_Qi (fun r (_ : Unit) => r = r0) (fun (_ : Unit) t => va_P D vwCl [(a_t, .inr (6, [.ref a_lines, .ref a_chart, .ref a_trial, .ref a_log, .ref a_shelves, .ref a_shown, .int k_shownCount, .int k_status₉, .int k_whyStep, .int k_whyReason, .int k_whyBarge, z_search, z_plan])), (a_chart, .inr (0, [.int k_chart_width, .int k_chart_height, .int k_chart_barges, .long k_chart_walls, .long k_chart_taken, .ref a_chart_kind, .ref a_chart_place, .ref a_chart_length, .ref a_chart_gate, .ref a_chart_across, .ref a_chart_wide, .ref a_chart_high, .ref a_chart_shape])), (a_chart_place, .inl (cT 0, 12, .inl k_chart_place)), (a_chart_shape, .inl (cT 1, 12, .inr (.inl k_chart_shape)))] t.heap ∧ va_K D vwCl (jT cT) t ∧ va_D (va_A [(a_t, .inr (6, [.ref a_lines, .ref a_chart, .ref a_trial, .ref a_log, .ref a_shelves, .ref a_shown, .int k_shownCount, .int k_status, .int k_whyStep, .int k_whyReason, .int k_whyBarge, z_search, z_plan])), (a_chart, .inr (0, [.int k_chart_width, .int k_chart_height, .int k_chart_barges, .long k_chart_walls, .long k_chart_taken, .ref a_chart_kind, .ref a_chart_place, .ref a_chart_length, .ref a_chart_gate, .ref a_chart_across, .ref a_chart_wide, .ref a_chart_high, .ref a_chart_shape])), (a_chart_place, .inl (cT 0, 12, .inl k_chart_place)), (a_chart_shape, .inl (cT 1, 12, .inr (.inl k_chart_shape)))] sz) [(a_t, .inr (6, [.ref a_lines, .ref a_chart, .ref a_trial, .ref a_log, .ref a_shelves, .ref a_shown, .int k_shownCount, .int k_status₉, .int k_whyStep, .int k_whyReason, .int k_whyBarge, z_search, z_plan])), (a_chart, .inr (0, [.int k_chart_width, .int k_chart_height, .int k_chart_barges, .long k_chart_walls, .long k_chart_taken, .ref a_chart_kind, .ref a_chart_place, .ref a_chart_length, .ref a_chart_gate, .ref a_chart_across, .ref a_chart_wide, .ref a_chart_high, .ref a_chart_shape])), (a_chart_place, .inl (cT 0, 12, .inl k_chart_place)), (a_chart_shape, .inl (cT 1, 12, .inr (.inl k_chart_shape)))]) (va_A [(a_t, .inr (6, [.ref a_lines, .ref a_chart, .ref a_trial, .ref a_log, .ref a_shelves, .ref a_shown, .int k_shownCount, .int k_status, .int k_whyStep, .int k_whyReason, .int k_whyBarge, z_search, z_plan])), (a_chart, .inr (0, [.int k_chart_width, .int k_chart_height, .int k_chart_barges, .long k_chart_walls, .long k_chart_taken, .ref a_chart_kind, .ref a_chart_place, .ref a_chart_length, .ref a_chart_gate, .ref a_chart_across, .ref a_chart_wide, .ref a_chart_high, .ref a_chart_shape])), (a_chart_place, .inl (cT 0, 12, .inl k_chart_place)), (a_chart_shape, .inl (cT 1, 12, .inr (.inl k_chart_shape)))] sz)) 0 0 (va_A [(a_t, .inr (6, [.ref a_lines, .ref a_chart, .ref a_trial, .ref a_log, .ref a_shelves, .ref a_shown, .int k_shownCount, .int k_status, .int k_whyStep, .int k_whyReason, .int k_whyBarge, z_search, z_plan])), (a_chart, .inr (0, [.int k_chart_width, .int k_chart_height, .int k_chart_barges, .long k_chart_walls, .long k_chart_taken, .ref a_chart_kind, .ref a_chart_place, .ref a_chart_length, .ref a_chart_gate, .ref a_chart_across, .ref a_chart_wide, .ref a_chart_high, .ref a_chart_shape])), (a_chart_place, .inl (cT 0, 12, .inl k_chart_place)), (a_chart_shape, .inl (cT 1, 12, .inr (.inl k_chart_shape)))] sz) := by
  refine Met.ofW (cc := cX6_field) (maxL := 3) (ret := (some .int)) (by decide) rfl ?_
  intro p e s m args below meth c s₁ B hml hv
  obtain ⟨rfl, hsz, hP, hK, hN, hD0⟩ := hv
  have hx := B.exec
  have hb := B.bytes
  have hr := B.returns
  have hts := atoms_spec (ws := wsX6_field) B.pre
  have hown : s.vm.findClass RX6 = some m.cls := findClass_of_methodNamed B.named
  have hlocks := B.notSynchronized
  subst hsz
  have hD := hD0.self (sz := s.heap.size)
  clear hD0
  generalize hAe : va_A [(a_t, .inr (6, [.ref a_lines, .ref a_chart, .ref a_trial, .ref a_log, .ref a_shelves, .ref a_shown, .int k_shownCount, .int k_status, .int k_whyStep, .int k_whyReason, .int k_whyBarge, z_search, z_plan])), (a_chart, .inr (0, [.int k_chart_width, .int k_chart_height, .int k_chart_barges, .long k_chart_walls, .long k_chart_taken, .ref a_chart_kind, .ref a_chart_place, .ref a_chart_length, .ref a_chart_gate, .ref a_chart_across, .ref a_chart_wide, .ref a_chart_high, .ref a_chart_shape])), (a_chart_place, .inl (cT 0, 12, .inl k_chart_place)), (a_chart_shape, .inl (cT 1, 12, .inr (.inl k_chart_shape)))] s.heap.size = A at hD ⊢
  have hA : ∀ q : Nat, s.heap.size ≤ q → A q := fun q h => by rw [← hAe]; exact Or.inr h
  clear hAe
  have hl := lv_entry ([.ref a_t, .int v1, .int v2]) (n := 3) (Nat.le_of_ble_eq_true rfl)
  rw [lg_entry_eq]
  generalize (lg_sl ([.ref a_t, .int v1, .int v2]) ++ List.replicate (3 - (lg_sl ([.ref a_t, .int v1, .int v2])).length) Slot.unset).toArray = ls at hl ⊢
  have hl : lv_has ls 3 [(0, .ref a_t), (1, .int v1), (2, .int v2)] := hl
  refine j_start (A := A) hP (fun H locs hP hS => ?_)
  unfold f_BargeBasin_field at hf
  refine lv_aload_n hx hb dX6_field_0 rfl (lv_at hl 0 rfl) ?_
  replace hf := ob_b hf
  obtain ⟨zr_1, hc_2, hf⟩ := hf
  refine vp_callSi (W.runV (As := []) (rest := []) ⟨hx, hb, hml, hown, hts⟩ (c_f_BargeBasin_hasNoBasin l D cT a_t a_lines a_chart a_trial a_log a_shelves a_shown a_chart_kind a_chart_place a_chart_length a_chart_gate a_chart_across a_chart_wide a_chart_high a_chart_shape z_search z_plan k_shownCount k_status k_whyStep k_whyReason k_whyBarge k_chart_width k_chart_height k_chart_barges k_chart_walls k_chart_taken _ hc_2) (cwV 0 hts gX6_field_X6_hasNoBasin rfl rfl rfl (by decide +kernel) ⟨Nat.le_of_ble_eq_true rfl, Nat.le_of_ble_eq_true rfl⟩) ⟨fun a U g mk q => by obtain ⟨q0, qP, qK, qN⟩ := q; exact ⟨q0, qP, va_K.moved (u := U) (U := U.calling g mk a) (Vm.Alike.refl U.vm) qK, jNw_same (u := U) (U := U.calling g mk a) rfl qN⟩, va_recv hK hP (ci := 6) (q0 := 0) rfl rfl, fun U hU hW => ⟨rfl, by rw [hU]; exact hP.sub [0, 1] rfl, va_K.moved hW.alike hK, jNw_warm hW hN⟩⟩ rfl rfl hl.1 rfl (lv_room (Nat.le_of_ble_eq_true rfl)) dX6_field_1 ⟨Nat.le_of_ble_eq_true rfl, Nat.le_of_ble_eq_true rfl⟩) (fun r_1 er_3 => ?_)
  subst er_3
  refine lv_if_eq (tgt := 13) hx hb dX6_field_4 (by decide) (fun c_4 => ?_) (fun c_4 => ?_)
  · replace hf := ob_pos c_4 hf
    refine lv_aload_n hx hb dX6_field_13 rfl (lv_at hl 0 rfl) ?_
    refine lv_iload_n hx hb dX6_field_14 rfl (lv_at hl 1 rfl) ?_
    refine lv_iload_n hx hb dX6_field_15 rfl (lv_at hl 2 rfl) ?_
    replace hf := ob_b hf
    obtain ⟨zr_5, hc_6, hf⟩ := hf
    refine vp_callSi (W.runV (As := [.int v1, .int v2]) (rest := []) ⟨hx, hb, hml, hown, hts⟩ (c_f_BargeBasin_isNoField l D cT a_t a_lines a_chart a_trial a_log a_shelves a_shown a_chart_kind a_chart_place a_chart_length a_chart_gate a_chart_across a_chart_wide a_chart_high a_chart_shape z_search z_plan k_shownCount k_status k_whyStep k_whyReason k_whyBarge k_chart_width k_chart_height k_chart_barges k_chart_walls k_chart_taken v1 v2 _ hc_6) (cwV 2 hts gX6_field_X6_isNoField rfl rfl rfl (by decide +kernel) ⟨Nat.le_of_ble_eq_true rfl, Nat.le_of_ble_eq_true rfl⟩) ⟨fun a U g mk q => by obtain ⟨q0, qP, qK, qN⟩ := q; exact ⟨q0, qP, va_K.moved (u := U) (U := U.calling g mk a) (Vm.Alike.refl U.vm) qK, jNw_same (u := U) (U := U.calling g mk a) rfl qN⟩, va_recv hK hP (ci := 6) (q0 := 0) rfl rfl, fun U hU hW => ⟨rfl, by rw [hU]; exact hP.sub [0, 1] rfl, va_K.moved hW.alike hK, jNw_warm hW hN⟩⟩ rfl rfl hl.1 rfl (lv_room (Nat.le_of_ble_eq_true rfl)) dX6_field_16 ⟨Nat.le_of_ble_eq_true rfl, Nat.le_of_ble_eq_true rfl⟩) (fun r_5 er_7 => ?_)
    subst er_7
    refine lv_if_eq (tgt := 28) hx hb dX6_field_19 (by decide) (fun c_8 => ?_) (fun c_8 => ?_)
    · replace hf := ob_pos c_8 hf
      refine lv_aload_n hx hb dX6_field_28 rfl (lv_at hl 0 rfl) ?_
      refine lv_aload_n hx hb dX6_field_29 rfl (lv_at hl 0 rfl) ?_
      refine va_get (D := D) (ci := 6) (v := .ref a_chart) (C := RX6) (T := TX6) (N := 13) hx hb hts iw_wsX6_field_X6 hown hK hP 0 rfl rfl 1 (by decide) (hts (.fieldLink RX6 19 "BargeBasin" "chart" "LBargeBasin$Chart;") (List.mem_of_getElem? (i := 1) (by decide +kernel))) (fun _ h9 => h9) rfl dX6_field_30 ?_
      refine lv_iload_n hx hb dX6_field_33 rfl (lv_at hl 1 rfl) ?_
      refine lv_iload_n hx hb dX6_field_34 rfl (lv_at hl 2 rfl) ?_
      replace hf := ob_b hf
      obtain ⟨zr_9, hc_10, hf⟩ := hf
      refine vp_callSi (W.runV (As := [.int v1, .int v2]) (rest := [.ref a_t]) ⟨hx, hb, hml, hown, hts⟩ (c_f_Chart_signAt l D cT a_chart a_chart_kind a_chart_place a_chart_length a_chart_gate a_chart_across a_chart_wide a_chart_high a_chart_shape k_chart_width k_chart_height k_chart_barges k_chart_walls k_chart_taken k_chart_place k_chart_shape v1 v2 _ hc_10) (cwV 2 hts gX6_field_X0_signAt rfl rfl rfl (by decide +kernel) ⟨Nat.le_of_ble_eq_true rfl, Nat.le_of_ble_eq_true rfl⟩) ⟨fun a U g mk q => by obtain ⟨q0, qP, qK, qN⟩ := q; exact ⟨q0, qP, va_K.moved (u := U) (U := U.calling g mk a) (Vm.Alike.refl U.vm) qK, jNw_same (u := U) (U := U.calling g mk a) rfl qN⟩, va_recv hK hP (ci := 0) (q0 := 1) rfl rfl, fun U hU hW => ⟨rfl, by rw [hU]; exact hP.sub [1, 2, 3] rfl, va_K.moved hW.alike hK, jNw_warm hW hN⟩⟩ rfl rfl hl.1 rfl (lv_room (Nat.le_of_ble_eq_true rfl)) dX6_field_35 ⟨Nat.le_of_ble_eq_true rfl, Nat.le_of_ble_eq_true rfl⟩) (fun r_9 er_11 => ?_)
      subst er_11
      replace hf := ob_b hf
      obtain ⟨⟨zr_12, k_status_13⟩, hc_14, hf⟩ := hf
      replace hf := ob_un2 hf
      have hPc := hP.sub (ws' := [(a_t, .inr (6, [.ref a_lines, .ref a_chart, .ref a_trial, .ref a_log, .ref a_shelves, .ref a_shown, .int k_shownCount, .int k_status, .int k_whyStep, .int k_whyReason, .int k_whyBarge, z_search, z_plan]))]) [0] rfl
      have hDc := hD.sub (ws' := [(a_t, .inr (6, [.ref a_lines, .ref a_chart, .ref a_trial, .ref a_log, .ref a_shelves, .ref a_shown, .int k_shownCount, .int k_status, .int k_whyStep, .int k_whyReason, .int k_whyBarge, z_search, z_plan]))]) [0] (by decide) rfl
      have hFc := va_free (wc := [(a_t, .inr (6, [.ref a_lines, .ref a_chart, .ref a_trial, .ref a_log, .ref a_shelves, .ref a_shown, .int k_shownCount, .int k_status, .int k_whyStep, .int k_whyReason, .int k_whyBarge, z_search, z_plan]))]) hD hS hA [0] rfl
      refine va_calli (va_runV (As := [.int r_9]) (rest := []) ⟨hx, hb, hml, hown, hts⟩ (c_f_BargeBasin_answer l D cT H.size a_t a_lines a_chart a_trial a_log a_shelves a_shown z_search z_plan k_shownCount k_status k_whyStep k_whyReason k_whyBarge r_9 _ _ hc_14) (cwV 1 hts gX6_field_X6_answer rfl rfl rfl (by decide +kernel) ⟨Nat.le_of_ble_eq_true rfl, Nat.le_of_ble_eq_true rfl⟩) ⟨fun a U g mk q => by obtain ⟨q0, q1, qP, qK, qN, qD⟩ := q; exact ⟨q0, q1, qP, va_K.moved (u := U) (U := U.calling g mk a) (Vm.Alike.refl U.vm) qK, jNw_same (u := U) (U := U.calling g mk a) rfl qN, qD⟩, va_recv hK hP (ci := 6) (q0 := 0) rfl rfl, fun U hU hW => ⟨rfl, by rw [hU], by rw [hU]; exact hPc, va_K.moved hW.alike hK, jNw_warm hW hN, hDc.weaken (fun _ _ _ _ => trivial)⟩⟩ rfl rfl hl.1 rfl (lv_room (Nat.le_of_ble_eq_true rfl)) dX6_field_38 ⟨Nat.le_of_ble_eq_true rfl, Nat.le_of_ble_eq_true rfl⟩) hS (fun q _ h => hFc q h) hFc (fun r_12 u t H1 locs ht hvm er_15 hB hz1 hk1 hS => ?_)
      subst er_15
      obtain ⟨hP1, hK1, hD1⟩ := hB
      rw [ht] at hP1
      have hPD := va_join (wr := [(a_chart, .inr (0, [.int k_chart_width, .int k_chart_height, .int k_chart_barges, .long k_chart_walls, .long k_chart_taken, .ref a_chart_kind, .ref a_chart_place, .ref a_chart_length, .ref a_chart_gate, .ref a_chart_across, .ref a_chart_wide, .ref a_chart_high, .ref a_chart_shape])), (a_chart_place, .inl (cT 0, 12, .inl k_chart_place)), (a_chart_shape, .inl (cT 1, 12, .inr (.inl k_chart_shape)))]) (w1 := [(a_t, .inr (6, [.ref a_lines, .ref a_chart, .ref a_trial, .ref a_log, .ref a_shelves, .ref a_shown, .int k_shownCount, .int k_status_13, .int k_whyStep, .int k_whyReason, .int k_whyBarge, z_search, z_plan]))]) hP hD [0] [1, 2, 3] rfl rfl (by decide) (by decide) hk1 hFc hP1 hD1
      clear hP hD
      obtain ⟨hP, hD⟩ := hPD
      replace hP := hP.sub (ws' := [(a_t, .inr (6, [.ref a_lines, .ref a_chart, .ref a_trial, .ref a_log, .ref a_shelves, .ref a_shown, .int k_shownCount, .int k_status_13, .int k_whyStep, .int k_whyReason, .int k_whyBarge, z_search, z_plan])), (a_chart, .inr (0, [.int k_chart_width, .int k_chart_height, .int k_chart_barges, .long k_chart_walls, .long k_chart_taken, .ref a_chart_kind, .ref a_chart_place, .ref a_chart_length, .ref a_chart_gate, .ref a_chart_across, .ref a_chart_wide, .ref a_chart_high, .ref a_chart_shape])), (a_chart_place, .inl (cT 0, 12, .inl k_chart_place)), (a_chart_shape, .inl (cT 1, 12, .inr (.inl k_chart_shape)))]) [3, 0, 1, 2] rfl
      replace hD := hD.sub (ws' := [(a_t, .inr (6, [.ref a_lines, .ref a_chart, .ref a_trial, .ref a_log, .ref a_shelves, .ref a_shown, .int k_shownCount, .int k_status_13, .int k_whyStep, .int k_whyReason, .int k_whyBarge, z_search, z_plan])), (a_chart, .inr (0, [.int k_chart_width, .int k_chart_height, .int k_chart_barges, .long k_chart_walls, .long k_chart_taken, .ref a_chart_kind, .ref a_chart_place, .ref a_chart_length, .ref a_chart_gate, .ref a_chart_across, .ref a_chart_wide, .ref a_chart_high, .ref a_chart_shape])), (a_chart_place, .inl (cT 0, 12, .inl k_chart_place)), (a_chart_shape, .inl (cT 1, 12, .inr (.inl k_chart_shape)))]) [3, 0, 1, 2] (by decide) rfl
      clear hPc hDc hFc hP1 hK1 hD1 hk1 hz1
      generalize H1 = H at hP hS ⊢
      replace hf := ob_t2 hf
      obtain ⟨ee0, ee1⟩ := hf
      subst ee0
      subst ee1
      exact W.iret hx hb hr (fun t ht hW => ⟨⟨_, (), rfl, rfl, by rw [ht]; exact hP, va_K.moved hW.alike hK, hD⟩, hS.F ht⟩) hS.2.2 dX6_field_41
    · replace hf := ob_neg c_8 hf
      refine lv_aload_n hx hb dX6_field_22 rfl (lv_at hl 0 rfl) ?_
      refine lv_iconst (v := 2) hx hb dX6_field_23 (by decide) ?_
      replace hf := ob_b hf
      obtain ⟨⟨zr_16, k_status_17⟩, hc_18, hf⟩ := hf
      replace hf := ob_un2 hf
      have hPc := hP.sub (ws' := [(a_t, .inr (6, [.ref a_lines, .ref a_chart, .ref a_trial, .ref a_log, .ref a_shelves, .ref a_shown, .int k_shownCount, .int k_status, .int k_whyStep, .int k_whyReason, .int k_whyBarge, z_search, z_plan]))]) [0] rfl
      have hDc := hD.sub (ws' := [(a_t, .inr (6, [.ref a_lines, .ref a_chart, .ref a_trial, .ref a_log, .ref a_shelves, .ref a_shown, .int k_shownCount, .int k_status, .int k_whyStep, .int k_whyReason, .int k_whyBarge, z_search, z_plan]))]) [0] (by decide) rfl
      have hFc := va_free (wc := [(a_t, .inr (6, [.ref a_lines, .ref a_chart, .ref a_trial, .ref a_log, .ref a_shelves, .ref a_shown, .int k_shownCount, .int k_status, .int k_whyStep, .int k_whyReason, .int k_whyBarge, z_search, z_plan]))]) hD hS hA [0] rfl
      refine va_calli (va_runV (As := [.int ((2 : Int32))]) (rest := []) ⟨hx, hb, hml, hown, hts⟩ (c_f_BargeBasin_refuse l D cT H.size a_t a_lines a_chart a_trial a_log a_shelves a_shown z_search z_plan k_shownCount k_status k_whyStep k_whyReason k_whyBarge ((2 : Int32)) _ _ hc_18) (cwV 1 hts gX6_field_X6_refuse rfl rfl rfl (by decide +kernel) ⟨Nat.le_of_ble_eq_true rfl, Nat.le_of_ble_eq_true rfl⟩) ⟨fun a U g mk q => by obtain ⟨q0, q1, qP, qK, qN, qD⟩ := q; exact ⟨q0, q1, qP, va_K.moved (u := U) (U := U.calling g mk a) (Vm.Alike.refl U.vm) qK, jNw_same (u := U) (U := U.calling g mk a) rfl qN, qD⟩, va_recv hK hP (ci := 6) (q0 := 0) rfl rfl, fun U hU hW => ⟨rfl, by rw [hU], by rw [hU]; exact hPc, va_K.moved hW.alike hK, jNw_warm hW hN, hDc.weaken (fun _ _ _ _ => trivial)⟩⟩ rfl rfl hl.1 rfl (lv_room (Nat.le_of_ble_eq_true rfl)) dX6_field_24 ⟨Nat.le_of_ble_eq_true rfl, Nat.le_of_ble_eq_true rfl⟩) hS (fun q _ h => hFc q h) hFc (fun r_16 u t H1 locs ht hvm er_19 hB hz1 hk1 hS => ?_)
      subst er_19
      obtain ⟨hP1, hK1, hD1⟩ := hB
      rw [ht] at hP1
      have hPD := va_join (wr := [(a_chart, .inr (0, [.int k_chart_width, .int k_chart_height, .int k_chart_barges, .long k_chart_walls, .long k_chart_taken, .ref a_chart_kind, .ref a_chart_place, .ref a_chart_length, .ref a_chart_gate, .ref a_chart_across, .ref a_chart_wide, .ref a_chart_high, .ref a_chart_shape])), (a_chart_place, .inl (cT 0, 12, .inl k_chart_place)), (a_chart_shape, .inl (cT 1, 12, .inr (.inl k_chart_shape)))]) (w1 := [(a_t, .inr (6, [.ref a_lines, .ref a_chart, .ref a_trial, .ref a_log, .ref a_shelves, .ref a_shown, .int k_shownCount, .int k_status_17, .int k_whyStep, .int k_whyReason, .int k_whyBarge, z_search, z_plan]))]) hP hD [0] [1, 2, 3] rfl rfl (by decide) (by decide) hk1 hFc hP1 hD1
      clear hP hD
      obtain ⟨hP, hD⟩ := hPD
      replace hP := hP.sub (ws' := [(a_t, .inr (6, [.ref a_lines, .ref a_chart, .ref a_trial, .ref a_log, .ref a_shelves, .ref a_shown, .int k_shownCount, .int k_status_17, .int k_whyStep, .int k_whyReason, .int k_whyBarge, z_search, z_plan])), (a_chart, .inr (0, [.int k_chart_width, .int k_chart_height, .int k_chart_barges, .long k_chart_walls, .long k_chart_taken, .ref a_chart_kind, .ref a_chart_place, .ref a_chart_length, .ref a_chart_gate, .ref a_chart_across, .ref a_chart_wide, .ref a_chart_high, .ref a_chart_shape])), (a_chart_place, .inl (cT 0, 12, .inl k_chart_place)), (a_chart_shape, .inl (cT 1, 12, .inr (.inl k_chart_shape)))]) [3, 0, 1, 2] rfl
      replace hD := hD.sub (ws' := [(a_t, .inr (6, [.ref a_lines, .ref a_chart, .ref a_trial, .ref a_log, .ref a_shelves, .ref a_shown, .int k_shownCount, .int k_status_17, .int k_whyStep, .int k_whyReason, .int k_whyBarge, z_search, z_plan])), (a_chart, .inr (0, [.int k_chart_width, .int k_chart_height, .int k_chart_barges, .long k_chart_walls, .long k_chart_taken, .ref a_chart_kind, .ref a_chart_place, .ref a_chart_length, .ref a_chart_gate, .ref a_chart_across, .ref a_chart_wide, .ref a_chart_high, .ref a_chart_shape])), (a_chart_place, .inl (cT 0, 12, .inl k_chart_place)), (a_chart_shape, .inl (cT 1, 12, .inr (.inl k_chart_shape)))]) [3, 0, 1, 2] (by decide) rfl
      clear hPc hDc hFc hP1 hK1 hD1 hk1 hz1
      generalize H1 = H at hP hS ⊢
      replace hf := ob_t2 hf
      obtain ⟨ee0, ee1⟩ := hf
      subst ee0
      subst ee1
      exact W.iret hx hb hr (fun t ht hW => ⟨⟨_, (), rfl, rfl, by rw [ht]; exact hP, va_K.moved hW.alike hK, hD⟩, hS.F ht⟩) hS.2.2 dX6_field_27
  · replace hf := ob_neg c_4 hf
    refine lv_aload_n hx hb dX6_field_7 rfl (lv_at hl 0 rfl) ?_
    refine lv_iconst (v := 1) hx hb dX6_field_8 (by decide) ?_
    replace hf := ob_b hf
    obtain ⟨⟨zr_20, k_status_21⟩, hc_22, hf⟩ := hf
    replace hf := ob_un2 hf
    have hPc := hP.sub (ws' := [(a_t, .inr (6, [.ref a_lines, .ref a_chart, .ref a_trial, .ref a_log, .ref a_shelves, .ref a_shown, .int k_shownCount, .int k_status, .int k_whyStep, .int k_whyReason, .int k_whyBarge, z_search, z_plan]))]) [0] rfl
    have hDc := hD.sub (ws' := [(a_t, .inr (6, [.ref a_lines, .ref a_chart, .ref a_trial, .ref a_log, .ref a_shelves, .ref a_shown, .int k_shownCount, .int k_status, .int k_whyStep, .int k_whyReason, .int k_whyBarge, z_search, z_plan]))]) [0] (by decide) rfl
    have hFc := va_free (wc := [(a_t, .inr (6, [.ref a_lines, .ref a_chart, .ref a_trial, .ref a_log, .ref a_shelves, .ref a_shown, .int k_shownCount, .int k_status, .int k_whyStep, .int k_whyReason, .int k_whyBarge, z_search, z_plan]))]) hD hS hA [0] rfl
    refine va_calli (va_runV (As := [.int ((1 : Int32))]) (rest := []) ⟨hx, hb, hml, hown, hts⟩ (c_f_BargeBasin_refuse l D cT H.size a_t a_lines a_chart a_trial a_log a_shelves a_shown z_search z_plan k_shownCount k_status k_whyStep k_whyReason k_whyBarge ((1 : Int32)) _ _ hc_22) (cwV 1 hts gX6_field_X6_refuse rfl rfl rfl (by decide +kernel) ⟨Nat.le_of_ble_eq_true rfl, Nat.le_of_ble_eq_true rfl⟩) ⟨fun a U g mk q => by obtain ⟨q0, q1, qP, qK, qN, qD⟩ := q; exact ⟨q0, q1, qP, va_K.moved (u := U) (U := U.calling g mk a) (Vm.Alike.refl U.vm) qK, jNw_same (u := U) (U := U.calling g mk a) rfl qN, qD⟩, va_recv hK hP (ci := 6) (q0 := 0) rfl rfl, fun U hU hW => ⟨rfl, by rw [hU], by rw [hU]; exact hPc, va_K.moved hW.alike hK, jNw_warm hW hN, hDc.weaken (fun _ _ _ _ => trivial)⟩⟩ rfl rfl hl.1 rfl (lv_room (Nat.le_of_ble_eq_true rfl)) dX6_field_9 ⟨Nat.le_of_ble_eq_true rfl, Nat.le_of_ble_eq_true rfl⟩) hS (fun q _ h => hFc q h) hFc (fun r_20 u t H1 locs ht hvm er_23 hB hz1 hk1 hS => ?_)
    subst er_23
    obtain ⟨hP1, hK1, hD1⟩ := hB
    rw [ht] at hP1
    have hPD := va_join (wr := [(a_chart, .inr (0, [.int k_chart_width, .int k_chart_height, .int k_chart_barges, .long k_chart_walls, .long k_chart_taken, .ref a_chart_kind, .ref a_chart_place, .ref a_chart_length, .ref a_chart_gate, .ref a_chart_across, .ref a_chart_wide, .ref a_chart_high, .ref a_chart_shape])), (a_chart_place, .inl (cT 0, 12, .inl k_chart_place)), (a_chart_shape, .inl (cT 1, 12, .inr (.inl k_chart_shape)))]) (w1 := [(a_t, .inr (6, [.ref a_lines, .ref a_chart, .ref a_trial, .ref a_log, .ref a_shelves, .ref a_shown, .int k_shownCount, .int k_status_21, .int k_whyStep, .int k_whyReason, .int k_whyBarge, z_search, z_plan]))]) hP hD [0] [1, 2, 3] rfl rfl (by decide) (by decide) hk1 hFc hP1 hD1
    clear hP hD
    obtain ⟨hP, hD⟩ := hPD
    replace hP := hP.sub (ws' := [(a_t, .inr (6, [.ref a_lines, .ref a_chart, .ref a_trial, .ref a_log, .ref a_shelves, .ref a_shown, .int k_shownCount, .int k_status_21, .int k_whyStep, .int k_whyReason, .int k_whyBarge, z_search, z_plan])), (a_chart, .inr (0, [.int k_chart_width, .int k_chart_height, .int k_chart_barges, .long k_chart_walls, .long k_chart_taken, .ref a_chart_kind, .ref a_chart_place, .ref a_chart_length, .ref a_chart_gate, .ref a_chart_across, .ref a_chart_wide, .ref a_chart_high, .ref a_chart_shape])), (a_chart_place, .inl (cT 0, 12, .inl k_chart_place)), (a_chart_shape, .inl (cT 1, 12, .inr (.inl k_chart_shape)))]) [3, 0, 1, 2] rfl
    replace hD := hD.sub (ws' := [(a_t, .inr (6, [.ref a_lines, .ref a_chart, .ref a_trial, .ref a_log, .ref a_shelves, .ref a_shown, .int k_shownCount, .int k_status_21, .int k_whyStep, .int k_whyReason, .int k_whyBarge, z_search, z_plan])), (a_chart, .inr (0, [.int k_chart_width, .int k_chart_height, .int k_chart_barges, .long k_chart_walls, .long k_chart_taken, .ref a_chart_kind, .ref a_chart_place, .ref a_chart_length, .ref a_chart_gate, .ref a_chart_across, .ref a_chart_wide, .ref a_chart_high, .ref a_chart_shape])), (a_chart_place, .inl (cT 0, 12, .inl k_chart_place)), (a_chart_shape, .inl (cT 1, 12, .inr (.inl k_chart_shape)))]) [3, 0, 1, 2] (by decide) rfl
    clear hPc hDc hFc hP1 hK1 hD1 hk1 hz1
    generalize H1 = H at hP hS ⊢
    replace hf := ob_t2 hf
    obtain ⟨ee0, ee1⟩ := hf
    subst ee0
    subst ee1
    exact W.iret hx hb hr (fun t ht hW => ⟨⟨_, (), rfl, rfl, by rw [ht]; exact hP, va_K.moved hW.alike hK, hD⟩, hS.F ht⟩) hS.2.2 dX6_field_12
abbrev rm_Long_bitCount_95d88 : Room := { frames := 0, cells := 0, slots := 0, locals := 0 }
set_option maxHeartbeats 4000000 in
set_option maxRecDepth 100000 in
theorem c_f_Long_bitCount (l : Launch) (D : va_G) (cT : Nat → ClassId) (v0 : Int64) (r0 : Int32) (hf : f_Long_bitCount v0 = some r0) : Met l yJ13_bitCount_95d88 wsJ13_bitCount_95d88 rm_Long_bitCount_95d88 (va_Pc [.long v0] (fun U => True)) (vp_Si (fun r => r = r0)) 0 0 (fun _ => False) := by
  refine Met.ofW (cc := cJ13_bitCount_95d88) (maxL := 2) (ret := (some .int)) (by decide) rfl ?_
  intro p e s m args below meth c s₁ B hml hv
  obtain ⟨rfl, -⟩ := hv
  have hx := B.exec
  have hb := B.bytes
  have hr := B.returns
  have hts := atoms_spec (ws := wsJ13_bitCount_95d88) B.pre
  have hown : s.vm.findClass RJ13 = some m.cls := findClass_of_methodNamed B.named
  have hlocks := B.notSynchronized
  have hl := lv_entry ([.long v0]) (n := 2) (Nat.le_of_ble_eq_true rfl)
  rw [lg_entry_eq]
  generalize (lg_sl ([.long v0]) ++ List.replicate (2 - (lg_sl ([.long v0])).length) Slot.unset).toArray = ls at hl ⊢
  have hl : lv_has ls 2 [(0, .long v0)] := hl
  unfold f_Long_bitCount at hf
  refine lv_lload_n hx hb dJ13_bitCount_95d88_0 rfl (lv_at hl 0 rfl) ?_
  refine lv_lload_n hx hb dJ13_bitCount_95d88_1 rfl (lv_at hl 0 rfl) ?_
  refine lv_iconst (v := 1) hx hb dJ13_bitCount_95d88_2 (by decide) ?_
  refine lv_lushr hx hb dJ13_bitCount_95d88_3 rfl ?_
  refine lv_ldc2 hx hb hown (hts (.constantLong RJ13 314 (6148914691236517205)) (List.mem_of_getElem? (i := 1) (by decide +kernel))) dJ13_bitCount_95d88_4 ?_
  refine lv_land hx hb dJ13_bitCount_95d88_7 ?_
  refine lv_lsub hx hb dJ13_bitCount_95d88_8 ?_
  refine lv_topl (fun v0_1 ev0_1 => ?_)
  replace hf := ob_nm ev0_1 hf
  refine lv_lstore_n (lv' := [(0, .long v0_1)]) hx hb dJ13_bitCount_95d88_9 rfl hl (by decide) rfl (fun ls hl => ?_)
  refine lv_lload_n hx hb dJ13_bitCount_95d88_10 rfl (lv_at hl 0 rfl) ?_
  refine lv_ldc2 hx hb hown (hts (.constantLong RJ13 316 (3689348814741910323)) (List.mem_of_getElem? (i := 2) (by decide +kernel))) dJ13_bitCount_95d88_11 ?_
  refine lv_land hx hb dJ13_bitCount_95d88_14 ?_
  refine lv_lload_n hx hb dJ13_bitCount_95d88_15 rfl (lv_at hl 0 rfl) ?_
  refine lv_iconst (v := 2) hx hb dJ13_bitCount_95d88_16 (by decide) ?_
  refine lv_lushr hx hb dJ13_bitCount_95d88_17 rfl ?_
  refine lv_ldc2 hx hb hown (hts (.constantLong RJ13 316 (3689348814741910323)) (List.mem_of_getElem? (i := 2) (by decide +kernel))) dJ13_bitCount_95d88_18 ?_
  refine lv_land hx hb dJ13_bitCount_95d88_21 ?_
  refine lv_ladd hx hb dJ13_bitCount_95d88_22 ?_
  refine lv_topl (fun v0_2 ev0_2 => ?_)
  replace hf := ob_nm ev0_2 hf
  refine lv_lstore_n (lv' := [(0, .long v0_2)]) hx hb dJ13_bitCount_95d88_23 rfl hl (by decide) rfl (fun ls hl => ?_)
  refine lv_lload_n hx hb dJ13_bitCount_95d88_24 rfl (lv_at hl 0 rfl) ?_
  refine lv_lload_n hx hb dJ13_bitCount_95d88_25 rfl (lv_at hl 0 rfl) ?_
  refine lv_iconst (v := 4) hx hb dJ13_bitCount_95d88_26 (by decide) ?_
  refine lv_lushr hx hb dJ13_bitCount_95d88_27 rfl ?_
  refine lv_ladd hx hb dJ13_bitCount_95d88_28 ?_
  refine lv_ldc2 hx hb hown (hts (.constantLong RJ13 318 (1085102592571150095)) (List.mem_of_getElem? (i := 3) (by decide +kernel))) dJ13_bitCount_95d88_29 ?_
  refine lv_land hx hb dJ13_bitCount_95d88_32 ?_
  refine lv_topl (fun v0_3 ev0_3 => ?_)
  replace hf := ob_nm ev0_3 hf
  refine lv_lstore_n (lv' := [(0, .long v0_3)]) hx hb dJ13_bitCount_95d88_33 rfl hl (by decide) rfl (fun ls hl => ?_)
  refine lv_lload_n hx hb dJ13_bitCount_95d88_34 rfl (lv_at hl 0 rfl) ?_
  refine lv_lload_n hx hb dJ13_bitCount_95d88_35 rfl (lv_at hl 0 rfl) ?_
  refine lv_bipush (v := 8) hx hb dJ13_bitCount_95d88_36 (by decide) ?_
  refine lv_lushr hx hb dJ13_bitCount_95d88_38 rfl ?_
  refine lv_ladd hx hb dJ13_bitCount_95d88_39 ?_
  refine lv_topl (fun v0_4 ev0_4 => ?_)
  replace hf := ob_nm ev0_4 hf
  refine lv_lstore_n (lv' := [(0, .long v0_4)]) hx hb dJ13_bitCount_95d88_40 rfl hl (by decide) rfl (fun ls hl => ?_)
  refine lv_lload_n hx hb dJ13_bitCount_95d88_41 rfl (lv_at hl 0 rfl) ?_
  refine lv_lload_n hx hb dJ13_bitCount_95d88_42 rfl (lv_at hl 0 rfl) ?_
  refine lv_bipush (v := 16) hx hb dJ13_bitCount_95d88_43 (by decide) ?_
  refine lv_lushr hx hb dJ13_bitCount_95d88_45 rfl ?_
  refine lv_ladd hx hb dJ13_bitCount_95d88_46 ?_
  refine lv_topl (fun v0_5 ev0_5 => ?_)
  replace hf := ob_nm ev0_5 hf
  refine lv_lstore_n (lv' := [(0, .long v0_5)]) hx hb dJ13_bitCount_95d88_47 rfl hl (by decide) rfl (fun ls hl => ?_)
  refine lv_lload_n hx hb dJ13_bitCount_95d88_48 rfl (lv_at hl 0 rfl) ?_
  refine lv_lload_n hx hb dJ13_bitCount_95d88_49 rfl (lv_at hl 0 rfl) ?_
  refine lv_bipush (v := 32) hx hb dJ13_bitCount_95d88_50 (by decide) ?_
  refine lv_lushr hx hb dJ13_bitCount_95d88_52 rfl ?_
  refine lv_ladd hx hb dJ13_bitCount_95d88_53 ?_
  refine lv_topl (fun v0_6 ev0_6 => ?_)
  replace hf := ob_nm ev0_6 hf
  refine lv_lstore_n (lv' := [(0, .long v0_6)]) hx hb dJ13_bitCount_95d88_54 rfl hl (by decide) rfl (fun ls hl => ?_)
  refine lv_lload_n hx hb dJ13_bitCount_95d88_55 rfl (lv_at hl 0 rfl) ?_
  refine lv_l2i hx hb dJ13_bitCount_95d88_56 rfl ?_
  refine lv_bipush (v := 127) hx hb dJ13_bitCount_95d88_57 (by decide) ?_
  refine lv_iand hx hb dJ13_bitCount_95d88_59 ?_
  cases hf
  exact W.iret hx hb hr (fun t ht hW => ⟨_, rfl, rfl, ht⟩) (fun q h => by cases h) dJ13_bitCount_95d88_60
theorem iw_wsX6_count_X6 : ∀ w ∈ wsX60, w ∈ wsX6_count := fun _ h => List.mem_cons_of_mem _ (List.mem_append_left _ (List.mem_append_left _ (List.mem_append_right _ h)))
theorem iw_wsX6_count_X0 : ∀ w ∈ wsX00, w ∈ wsX6_count := fun _ h => List.mem_cons_of_mem _ (List.mem_append_left _ (List.mem_append_right _ h))
theorem iw_wsX6_count_X3 : ∀ w ∈ wsX30, w ∈ wsX6_count := fun _ h => List.mem_cons_of_mem _ (List.mem_append_right _ h)
abbrev rm_BargeBasin_count : Room := { frames := 2, cells := 0, slots := 0, locals := 42 }
set_option maxHeartbeats 4000000 in
set_option maxRecDepth 100000 in
theorem c_f_BargeBasin_count (l : Launch) (D : va_G) (cT : Nat → ClassId) (sz : Nat) (a_t a_lines a_chart a_trial a_log a_shelves a_shown a_chart_kind a_chart_place a_chart_length a_chart_gate a_chart_across a_chart_wide a_chart_high a_chart_shape a_log_moves : Nat) (z_search z_plan : Value) (k_shownCount : Int32) (k_status : Int32) (k_whyStep : Int32) (k_whyReason : Int32) (k_whyBarge : Int32) (k_chart_width : Int32) (k_chart_height : Int32) (k_chart_barges : Int32) (k_chart_walls : Int64) (k_chart_taken : Int64) (k_chart_kind : Nat → Int32) (k_chart_place : Nat → Int32) (k_chart_gate : Nat → Int32) (k_log_first : Int32) (k_log_done : Int32) (k_log_undone : Int32) (v1 : Int32) (r0 : Int32) (k_status₉ : Int32) (hf : f_BargeBasin_count v1 k_status k_chart_width k_chart_height k_chart_barges k_chart_walls k_chart_taken k_chart_kind k_chart_place k_chart_gate k_log_done k_log_undone = some (r0, k_status₉)) : Met l yX6_count wsX6_count rm_BargeBasin_count (va_Pc [.ref a_t, .int v1] (fun U => U.heap.size = sz ∧ va_P D vwCl [(a_t, .inr (6, [.ref a_lines, .ref a_chart, .ref a_trial, .ref a_log, .ref a_shelves, .ref a_shown, .int k_shownCount, .int k_status, .int k_whyStep, .int k_whyReason, .int k_whyBarge, z_search, z_plan])), (a_chart, .inr (0, [.int k_chart_width, .int k_chart_height, .int k_chart_barges, .long k_chart_walls, .long k_chart_taken, .ref a_chart_kind, .ref a_chart_place, .ref a_chart_length, .ref a_chart_gate, .ref a_chart_across, .ref a_chart_wide, .ref a_chart_high, .ref a_chart_shape])), (a_chart_kind, .inl (cT 0, 12, .inl k_chart_kind)), (a_chart_place, .inl (cT 0, 12, .inl k_chart_place)), (a_chart_gate, .inl (cT 0, 12, .inl k_chart_gate)), (a_log, .inr (3, [.ref a_log_moves, .int k_log_first, .int k_log_done, .int k_log_undone]))] U.heap ∧ va_K D vwCl (jT cT) U ∧ jNw U ∧ va_D (fun _ => True) [(a_t, .inr (6, [.ref a_lines, .ref a_chart, .ref a_trial, .ref a_log, .ref a_shelves, .ref a_shown, .int k_shownCount, .int k_status, .int k_whyStep, .int k_whyReason, .int k_whyBarge, z_search, z_plan])), (a_chart, .inr (0, [.int k_chart_width, .int k_chart_height, .int k_chart_barges, .long k_chart_walls, .long k_chart_taken, .ref a_chart_kind, .ref a_chart_place, .ref a_chart_length, .ref a_chart_gate, .ref a_chart_across, .ref a_chart_wide, .ref a_chart_high, .ref a_chart_shape])), (a_chart_kind, .inl (cT 0, 12, .inl k_chart_kind)), (a_chart_place, .inl (cT 0, 12, .inl k_chart_place)), (a_chart_gate, .inl (cT 0, 12, .inl k_chart_gate)), (a_log, .inr (3, [.ref a_log_moves, .int k_log_first, .int k_log_done, .int k_log_undone]))])) (va_Qi (fun r (_ : Unit) => r = r0) (fun (_ : Unit) t => va_P D vwCl [(a_t, .inr (6, [.ref a_lines, .ref a_chart, .ref a_trial, .ref a_log, .ref a_shelves, .ref a_shown, .int k_shownCount, .int k_status₉, .int k_whyStep, .int k_whyReason, .int k_whyBarge, z_search, z_plan])), (a_chart, .inr (0, [.int k_chart_width, .int k_chart_height, .int k_chart_barges, .long k_chart_walls, .long k_chart_taken, .ref a_chart_kind, .ref a_chart_place, .ref a_chart_length, .ref a_chart_gate, .ref a_chart_across, .ref a_chart_wide, .ref a_chart_high, .ref a_chart_shape])), (a_chart_kind, .inl (cT 0, 12, .inl k_chart_kind)), (a_chart_place, .inl (cT 0, 12, .inl k_chart_place)), (a_chart_gate, .inl (cT 0, 12, .inl k_chart_gate)), (a_log, .inr (3, [.ref a_log_moves, .int k_log_first, .int k_log_done, .int k_log_undone]))] t.heap ∧ va_K D vwCl (jT cT) t ∧ va_D (va_A [(a_t, .inr (6, [.ref a_lines, .ref a_chart, .ref a_trial, .ref a_log, .ref a_shelves, .ref a_shown, .int k_shownCount, .int k_status, .int k_whyStep, .int k_whyReason, .int k_whyBarge, z_search, z_plan])), (a_chart, .inr (0, [.int k_chart_width, .int k_chart_height, .int k_chart_barges, .long k_chart_walls, .long k_chart_taken, .ref a_chart_kind, .ref a_chart_place, .ref a_chart_length, .ref a_chart_gate, .ref a_chart_across, .ref a_chart_wide, .ref a_chart_high, .ref a_chart_shape])), (a_chart_kind, .inl (cT 0, 12, .inl k_chart_kind)), (a_chart_place, .inl (cT 0, 12, .inl k_chart_place)), (a_chart_gate, .inl (cT 0, 12, .inl k_chart_gate)), (a_log, .inr (3, [.ref a_log_moves, .int k_log_first, .int k_log_done, .int k_log_undone]))] sz) [(a_t, .inr (6, [.ref a_lines, .ref a_chart, .ref a_trial, .ref a_log, .ref a_shelves, .ref a_shown, .int k_shownCount, .int k_status₉, .int k_whyStep, .int k_whyReason, .int k_whyBarge, z_search, z_plan])), (a_chart, .inr (0, [.int k_chart_width, .int k_chart_height, .int k_chart_barges, .long k_chart_walls, .long k_chart_taken, .ref a_chart_kind, .ref a_chart_place, .ref a_chart_length, .ref a_chart_gate, .ref a_chart_across, .ref a_chart_wide, .ref a_chart_high, .ref a_chart_shape])), (a_chart_kind, .inl (cT 0, 12, .inl k_chart_kind)), (a_chart_place, .inl (cT 0, 12, .inl k_chart_place)), (a_chart_gate, .inl (cT 0, 12, .inl k_chart_gate)), (a_log, .inr (3, [.ref a_log_moves, .int k_log_first, .int k_log_done, .int k_log_undone]))]) (va_A [(a_t, .inr (6, [.ref a_lines, .ref a_chart, .ref a_trial, .ref a_log, .ref a_shelves, .ref a_shown, .int k_shownCount, .int k_status, .int k_whyStep, .int k_whyReason, .int k_whyBarge, z_search, z_plan])), (a_chart, .inr (0, [.int k_chart_width, .int k_chart_height, .int k_chart_barges, .long k_chart_walls, .long k_chart_taken, .ref a_chart_kind, .ref a_chart_place, .ref a_chart_length, .ref a_chart_gate, .ref a_chart_across, .ref a_chart_wide, .ref a_chart_high, .ref a_chart_shape])), (a_chart_kind, .inl (cT 0, 12, .inl k_chart_kind)), (a_chart_place, .inl (cT 0, 12, .inl k_chart_place)), (a_chart_gate, .inl (cT 0, 12, .inl k_chart_gate)), (a_log, .inr (3, [.ref a_log_moves, .int k_log_first, .int k_log_done, .int k_log_undone]))] sz)) 0 0 (va_A [(a_t, .inr (6, [.ref a_lines, .ref a_chart, .ref a_trial, .ref a_log, .ref a_shelves, .ref a_shown, .int k_shownCount, .int k_status, .int k_whyStep, .int k_whyReason, .int k_whyBarge, z_search, z_plan])), (a_chart, .inr (0, [.int k_chart_width, .int k_chart_height, .int k_chart_barges, .long k_chart_walls, .long k_chart_taken, .ref a_chart_kind, .ref a_chart_place, .ref a_chart_length, .ref a_chart_gate, .ref a_chart_across, .ref a_chart_wide, .ref a_chart_high, .ref a_chart_shape])), (a_chart_kind, .inl (cT 0, 12, .inl k_chart_kind)), (a_chart_place, .inl (cT 0, 12, .inl k_chart_place)), (a_chart_gate, .inl (cT 0, 12, .inl k_chart_gate)), (a_log, .inr (3, [.ref a_log_moves, .int k_log_first, .int k_log_done, .int k_log_undone]))] sz) := by
  refine Met.ofW (cc := cX6_count) (maxL := 3) (ret := (some .int)) (by decide) rfl ?_
  intro p e s m args below meth c s₁ B hml hv
  obtain ⟨rfl, hsz, hP, hK, hN, hD0⟩ := hv
  have hx := B.exec
  have hb := B.bytes
  have hr := B.returns
  have hts := atoms_spec (ws := wsX6_count) B.pre
  have hown : s.vm.findClass RX6 = some m.cls := findClass_of_methodNamed B.named
  have hlocks := B.notSynchronized
  subst hsz
  have hD := hD0.self (sz := s.heap.size)
  clear hD0
  generalize hAe : va_A [(a_t, .inr (6, [.ref a_lines, .ref a_chart, .ref a_trial, .ref a_log, .ref a_shelves, .ref a_shown, .int k_shownCount, .int k_status, .int k_whyStep, .int k_whyReason, .int k_whyBarge, z_search, z_plan])), (a_chart, .inr (0, [.int k_chart_width, .int k_chart_height, .int k_chart_barges, .long k_chart_walls, .long k_chart_taken, .ref a_chart_kind, .ref a_chart_place, .ref a_chart_length, .ref a_chart_gate, .ref a_chart_across, .ref a_chart_wide, .ref a_chart_high, .ref a_chart_shape])), (a_chart_kind, .inl (cT 0, 12, .inl k_chart_kind)), (a_chart_place, .inl (cT 0, 12, .inl k_chart_place)), (a_chart_gate, .inl (cT 0, 12, .inl k_chart_gate)), (a_log, .inr (3, [.ref a_log_moves, .int k_log_first, .int k_log_done, .int k_log_undone]))] s.heap.size = A at hD ⊢
  have hA : ∀ q : Nat, s.heap.size ≤ q → A q := fun q h => by rw [← hAe]; exact Or.inr h
  clear hAe
  have hl := lv_entry ([.ref a_t, .int v1]) (n := 3) (Nat.le_of_ble_eq_true rfl)
  rw [lg_entry_eq]
  generalize (lg_sl ([.ref a_t, .int v1]) ++ List.replicate (3 - (lg_sl ([.ref a_t, .int v1])).length) Slot.unset).toArray = ls at hl ⊢
  have hl : lv_has ls 3 [(0, .ref a_t), (1, .int v1)] := hl
  refine j_start (A := A) hP (fun H locs hP hS => ?_)
  unfold f_BargeBasin_count at hf
  refine lv_aload_n hx hb dX6_count_0 rfl (lv_at hl 0 rfl) ?_
  replace hf := ob_b hf
  obtain ⟨zr_1, hc_2, hf⟩ := hf
  refine vp_callSi (W.runV (As := []) (rest := []) ⟨hx, hb, hml, hown, hts⟩ (c_f_BargeBasin_hasNoBasin l D cT a_t a_lines a_chart a_trial a_log a_shelves a_shown a_chart_kind a_chart_place a_chart_length a_chart_gate a_chart_across a_chart_wide a_chart_high a_chart_shape z_search z_plan k_shownCount k_status k_whyStep k_whyReason k_whyBarge k_chart_width k_chart_height k_chart_barges k_chart_walls k_chart_taken _ hc_2) (cwV 0 hts gX6_count_X6_hasNoBasin rfl rfl rfl (by decide +kernel) ⟨Nat.le_of_ble_eq_true rfl, Nat.le_of_ble_eq_true rfl⟩) ⟨fun a U g mk q => by obtain ⟨q0, qP, qK, qN⟩ := q; exact ⟨q0, qP, va_K.moved (u := U) (U := U.calling g mk a) (Vm.Alike.refl U.vm) qK, jNw_same (u := U) (U := U.calling g mk a) rfl qN⟩, va_recv hK hP (ci := 6) (q0 := 0) rfl rfl, fun U hU hW => ⟨rfl, by rw [hU]; exact hP.sub [0, 1] rfl, va_K.moved hW.alike hK, jNw_warm hW hN⟩⟩ rfl rfl hl.1 rfl (lv_room (Nat.le_of_ble_eq_true rfl)) dX6_count_1 ⟨Nat.le_of_ble_eq_true rfl, Nat.le_of_ble_eq_true rfl⟩) (fun r_1 er_3 => ?_)
  subst er_3
  refine lv_if_eq (tgt := 13) hx hb dX6_count_4 (by decide) (fun c_4 => ?_) (fun c_4 => ?_)
  · replace hf := ob_pos c_4 hf
    refine lv_aload_n hx hb dX6_count_13 rfl (lv_at hl 0 rfl) ?_
    refine va_get (D := D) (ci := 6) (v := .ref a_chart) (C := RX6) (T := TX6) (N := 13) hx hb hts iw_wsX6_count_X6 hown hK hP 0 rfl rfl 1 (by decide) (hts (.fieldLink RX6 19 "BargeBasin" "chart" "LBargeBasin$Chart;") (List.mem_of_getElem? (i := 1) (by decide +kernel))) (fun _ h9 => h9) rfl dX6_count_14 ?_
    refine va_get (D := D) (ci := 0) (v := .long k_chart_walls) (C := RX0) (T := TX0) (N := 13) hx hb hts iw_wsX6_count_X0 hown hK hP 1 rfl rfl 3 (by decide) (hts (.fieldLink RX6 170 "BargeBasin$Chart" "walls" "J") (List.mem_of_getElem? (i := 2) (by decide +kernel))) (fun _ h9 => h9) rfl dX6_count_17 ?_
    replace hf := ob_b hf
    obtain ⟨zr_5, hc_6, hf⟩ := hf
    refine vp_callSi (W.runS (As := [.long k_chart_walls]) (rest := []) ⟨hx, hb, hml, hown, hts⟩ (c_f_Long_bitCount l D cT k_chart_walls _ hc_6) (va_cwS 1 hts gX6_count_J13_bitCount_95d88 rfl rfl rfl (by decide +kernel) ⟨Nat.le_of_ble_eq_true rfl, Nat.le_of_ble_eq_true rfl⟩) ⟨fun a U g mk q => q, fun U hU hW => ⟨rfl, trivial⟩⟩ rfl rfl hl.1 rfl (lv_room (Nat.le_of_ble_eq_true rfl)) dX6_count_20 ⟨Nat.le_of_ble_eq_true rfl, Nat.le_of_ble_eq_true rfl⟩) (fun r_5 er_7 => ?_)
    subst er_7
    refine lv_istore_n (lv' := [(2, .int r_5), (0, .ref a_t), (1, .int v1)]) hx hb dX6_count_23 rfl hl (by decide) rfl (fun ls hl => ?_)
    refine lv_iload_n hx hb dX6_count_24 rfl (lv_at hl 2 rfl) ?_
    by_cases c_8 : v1 = (0 : Int32)
    · replace hf := ob_pos c_8 hf
      refine lv_tableIn (off := 47) (tgt := 72) hx hb dX6_count_25 (by rw [c_8]; decide) (by rw [c_8]; decide) (by rw [c_8]; decide) (by decide) ?_
      refine lv_aload_n hx hb dX6_count_72 rfl (lv_at hl 1 rfl) ?_
      refine lv_aload_n hx hb dX6_count_73 rfl (lv_at hl 1 rfl) ?_
      refine va_get (D := D) (ci := 6) (v := .ref a_chart) (C := RX6) (T := TX6) (N := 13) hx hb hts iw_wsX6_count_X6 hown hK hP 0 rfl rfl 1 (by decide) (hts (.fieldLink RX6 19 "BargeBasin" "chart" "LBargeBasin$Chart;") (List.mem_of_getElem? (i := 1) (by decide +kernel))) (fun _ h9 => h9) rfl dX6_count_74 ?_
      refine va_get (D := D) (ci := 0) (v := .int k_chart_width) (C := RX0) (T := TX0) (N := 13) hx hb hts iw_wsX6_count_X0 hown hK hP 1 rfl rfl 0 (by decide) (hts (.fieldLink RX6 75 "BargeBasin$Chart" "width" "I") (List.mem_of_getElem? (i := 3) (by decide +kernel))) (fun _ h9 => h9) rfl dX6_count_77 ?_
      replace hf := ob_b hf
      obtain ⟨⟨zr_9, k_status_10⟩, hc_11, hf⟩ := hf
      replace hf := ob_un2 hf
      have hPc := hP.sub (ws' := [(a_t, .inr (6, [.ref a_lines, .ref a_chart, .ref a_trial, .ref a_log, .ref a_shelves, .ref a_shown, .int k_shownCount, .int k_status, .int k_whyStep, .int k_whyReason, .int k_whyBarge, z_search, z_plan]))]) [0] rfl
      have hDc := hD.sub (ws' := [(a_t, .inr (6, [.ref a_lines, .ref a_chart, .ref a_trial, .ref a_log, .ref a_shelves, .ref a_shown, .int k_shownCount, .int k_status, .int k_whyStep, .int k_whyReason, .int k_whyBarge, z_search, z_plan]))]) [0] (by decide) rfl
      have hFc := va_free (wc := [(a_t, .inr (6, [.ref a_lines, .ref a_chart, .ref a_trial, .ref a_log, .ref a_shelves, .ref a_shown, .int k_shownCount, .int k_status, .int k_whyStep, .int k_whyReason, .int k_whyBarge, z_search, z_plan]))]) hD hS hA [0] rfl
      refine va_calli (va_runV (As := [.int k_chart_width]) (rest := []) ⟨hx, hb, hml, hown, hts⟩ (c_f_BargeBasin_answer l D cT H.size a_t a_lines a_chart a_trial a_log a_shelves a_shown z_search z_plan k_shownCount k_status k_whyStep k_whyReason k_whyBarge k_chart_width _ _ hc_11) (cwV 1 hts gX6_count_X6_answer rfl rfl rfl (by decide +kernel) ⟨Nat.le_of_ble_eq_true rfl, Nat.le_of_ble_eq_true rfl⟩) ⟨fun a U g mk q => by obtain ⟨q0, q1, qP, qK, qN, qD⟩ := q; exact ⟨q0, q1, qP, va_K.moved (u := U) (U := U.calling g mk a) (Vm.Alike.refl U.vm) qK, jNw_same (u := U) (U := U.calling g mk a) rfl qN, qD⟩, va_recv hK hP (ci := 6) (q0 := 0) rfl rfl, fun U hU hW => ⟨rfl, by rw [hU], by rw [hU]; exact hPc, va_K.moved hW.alike hK, jNw_warm hW hN, hDc.weaken (fun _ _ _ _ => trivial)⟩⟩ rfl rfl hl.1 rfl (lv_room (Nat.le_of_ble_eq_true rfl)) dX6_count_80 ⟨Nat.le_of_ble_eq_true rfl, Nat.le_of_ble_eq_true rfl⟩) hS (fun q _ h => hFc q h) hFc (fun r_9 u t H1 locs ht hvm er_12 hB hz1 hk1 hS => ?_)
      subst er_12
      obtain ⟨hP1, hK1, hD1⟩ := hB
      rw [ht] at hP1
      have hPD := va_join (wr := [(a_chart, .inr (0, [.int k_chart_width, .int k_chart_height, .int k_chart_barges, .long k_chart_walls, .long k_chart_taken, .ref a_chart_kind, .ref a_chart_place, .ref a_chart_length, .ref a_chart_gate, .ref a_chart_across, .ref a_chart_wide, .ref a_chart_high, .ref a_chart_shape])), (a_chart_kind, .inl (cT 0, 12, .inl k_chart_kind)), (a_chart_place, .inl (cT 0, 12, .inl k_chart_place)), (a_chart_gate, .inl (cT 0, 12, .inl k_chart_gate)), (a_log, .inr (3, [.ref a_log_moves, .int k_log_first, .int k_log_done, .int k_log_undone]))]) (w1 := [(a_t, .inr (6, [.ref a_lines, .ref a_chart, .ref a_trial, .ref a_log, .ref a_shelves, .ref a_shown, .int k_shownCount, .int k_status_10, .int k_whyStep, .int k_whyReason, .int k_whyBarge, z_search, z_plan]))]) hP hD [0] [1, 2, 3, 4, 5] rfl rfl (by decide) (by decide) hk1 hFc hP1 hD1
      clear hP hD
      obtain ⟨hP, hD⟩ := hPD
      replace hP := hP.sub (ws' := [(a_t, .inr (6, [.ref a_lines, .ref a_chart, .ref a_trial, .ref a_log, .ref a_shelves, .ref a_shown, .int k_shownCount, .int k_status_10, .int k_whyStep, .int k_whyReason, .int k_whyBarge, z_search, z_plan])), (a_chart, .inr (0, [.int k_chart_width, .int k_chart_height, .int k_chart_barges, .long k_chart_walls, .long k_chart_taken, .ref a_chart_kind, .ref a_chart_place, .ref a_chart_length, .ref a_chart_gate, .ref a_chart_across, .ref a_chart_wide, .ref a_chart_high, .ref a_chart_shape])), (a_chart_kind, .inl (cT 0, 12, .inl k_chart_kind)), (a_chart_place, .inl (cT 0, 12, .inl k_chart_place)), (a_chart_gate, .inl (cT 0, 12, .inl k_chart_gate)), (a_log, .inr (3, [.ref a_log_moves, .int k_log_first, .int k_log_done, .int k_log_undone]))]) [5, 0, 1, 2, 3, 4] rfl
      replace hD := hD.sub (ws' := [(a_t, .inr (6, [.ref a_lines, .ref a_chart, .ref a_trial, .ref a_log, .ref a_shelves, .ref a_shown, .int k_shownCount, .int k_status_10, .int k_whyStep, .int k_whyReason, .int k_whyBarge, z_search, z_plan])), (a_chart, .inr (0, [.int k_chart_width, .int k_chart_height, .int k_chart_barges, .long k_chart_walls, .long k_chart_taken, .ref a_chart_kind, .ref a_chart_place, .ref a_chart_length, .ref a_chart_gate, .ref a_chart_across, .ref a_chart_wide, .ref a_chart_high, .ref a_chart_shape])), (a_chart_kind, .inl (cT 0, 12, .inl k_chart_kind)), (a_chart_place, .inl (cT 0, 12, .inl k_chart_place)), (a_chart_gate, .inl (cT 0, 12, .inl k_chart_gate)), (a_log, .inr (3, [.ref a_log_moves, .int k_log_first, .int k_log_done, .int k_log_undone]))]) [5, 0, 1, 2, 3, 4] (by decide) rfl
      clear hPc hDc hFc hP1 hK1 hD1 hk1 hz1
      generalize H1 = H at hP hS ⊢
      replace hf := ob_t2 hf
      obtain ⟨ee0, ee1⟩ := hf
      subst ee0
      subst ee1
      exact W.iret hx hb hr (fun t ht hW => ⟨⟨_, (), rfl, rfl, by rw [ht]; exact hP, va_K.moved hW.alike hK, hD⟩, hS.F ht⟩) hS.2.2 dX6_count_83
    replace hf := ob_neg c_8 hf
    by_cases c_13 : v1 = (1 : Int32)
    · replace hf := ob_pos c_13 hf
      refine lv_tableIn (off := 59) (tgt := 84) hx hb dX6_count_25 (by rw [c_13]; decide) (by rw [c_13]; decide) (by rw [c_13]; decide) (by decide) ?_
      refine lv_aload_n hx hb dX6_count_84 rfl (lv_at hl 1 rfl) ?_
      refine lv_aload_n hx hb dX6_count_85 rfl (lv_at hl 1 rfl) ?_
      refine va_get (D := D) (ci := 6) (v := .ref a_chart) (C := RX6) (T := TX6) (N := 13) hx hb hts iw_wsX6_count_X6 hown hK hP 0 rfl rfl 1 (by decide) (hts (.fieldLink RX6 19 "BargeBasin" "chart" "LBargeBasin$Chart;") (List.mem_of_getElem? (i := 1) (by decide +kernel))) (fun _ h9 => h9) rfl dX6_count_86 ?_
      refine va_get (D := D) (ci := 0) (v := .int k_chart_height) (C := RX0) (T := TX0) (N := 13) hx hb hts iw_wsX6_count_X0 hown hK hP 1 rfl rfl 1 (by decide) (hts (.fieldLink RX6 180 "BargeBasin$Chart" "height" "I") (List.mem_of_getElem? (i := 4) (by decide +kernel))) (fun _ h9 => h9) rfl dX6_count_89 ?_
      replace hf := ob_b hf
      obtain ⟨⟨zr_14, k_status_15⟩, hc_16, hf⟩ := hf
      replace hf := ob_un2 hf
      have hPc := hP.sub (ws' := [(a_t, .inr (6, [.ref a_lines, .ref a_chart, .ref a_trial, .ref a_log, .ref a_shelves, .ref a_shown, .int k_shownCount, .int k_status, .int k_whyStep, .int k_whyReason, .int k_whyBarge, z_search, z_plan]))]) [0] rfl
      have hDc := hD.sub (ws' := [(a_t, .inr (6, [.ref a_lines, .ref a_chart, .ref a_trial, .ref a_log, .ref a_shelves, .ref a_shown, .int k_shownCount, .int k_status, .int k_whyStep, .int k_whyReason, .int k_whyBarge, z_search, z_plan]))]) [0] (by decide) rfl
      have hFc := va_free (wc := [(a_t, .inr (6, [.ref a_lines, .ref a_chart, .ref a_trial, .ref a_log, .ref a_shelves, .ref a_shown, .int k_shownCount, .int k_status, .int k_whyStep, .int k_whyReason, .int k_whyBarge, z_search, z_plan]))]) hD hS hA [0] rfl
      refine va_calli (va_runV (As := [.int k_chart_height]) (rest := []) ⟨hx, hb, hml, hown, hts⟩ (c_f_BargeBasin_answer l D cT H.size a_t a_lines a_chart a_trial a_log a_shelves a_shown z_search z_plan k_shownCount k_status k_whyStep k_whyReason k_whyBarge k_chart_height _ _ hc_16) (cwV 1 hts gX6_count_X6_answer rfl rfl rfl (by decide +kernel) ⟨Nat.le_of_ble_eq_true rfl, Nat.le_of_ble_eq_true rfl⟩) ⟨fun a U g mk q => by obtain ⟨q0, q1, qP, qK, qN, qD⟩ := q; exact ⟨q0, q1, qP, va_K.moved (u := U) (U := U.calling g mk a) (Vm.Alike.refl U.vm) qK, jNw_same (u := U) (U := U.calling g mk a) rfl qN, qD⟩, va_recv hK hP (ci := 6) (q0 := 0) rfl rfl, fun U hU hW => ⟨rfl, by rw [hU], by rw [hU]; exact hPc, va_K.moved hW.alike hK, jNw_warm hW hN, hDc.weaken (fun _ _ _ _ => trivial)⟩⟩ rfl rfl hl.1 rfl (lv_room (Nat.le_of_ble_eq_true rfl)) dX6_count_92 ⟨Nat.le_of_ble_eq_true rfl, Nat.le_of_ble_eq_true rfl⟩) hS (fun q _ h => hFc q h) hFc (fun r_14 u t H1 locs ht hvm er_17 hB hz1 hk1 hS => ?_)
      subst er_17
      obtain ⟨hP1, hK1, hD1⟩ := hB
      rw [ht] at hP1
      have hPD := va_join (wr := [(a_chart, .inr (0, [.int k_chart_width, .int k_chart_height, .int k_chart_barges, .long k_chart_walls, .long k_chart_taken, .ref a_chart_kind, .ref a_chart_place, .ref a_chart_length, .ref a_chart_gate, .ref a_chart_across, .ref a_chart_wide, .ref a_chart_high, .ref a_chart_shape])), (a_chart_kind, .inl (cT 0, 12, .inl k_chart_kind)), (a_chart_place, .inl (cT 0, 12, .inl k_chart_place)), (a_chart_gate, .inl (cT 0, 12, .inl k_chart_gate)), (a_log, .inr (3, [.ref a_log_moves, .int k_log_first, .int k_log_done, .int k_log_undone]))]) (w1 := [(a_t, .inr (6, [.ref a_lines, .ref a_chart, .ref a_trial, .ref a_log, .ref a_shelves, .ref a_shown, .int k_shownCount, .int k_status_15, .int k_whyStep, .int k_whyReason, .int k_whyBarge, z_search, z_plan]))]) hP hD [0] [1, 2, 3, 4, 5] rfl rfl (by decide) (by decide) hk1 hFc hP1 hD1
      clear hP hD
      obtain ⟨hP, hD⟩ := hPD
      replace hP := hP.sub (ws' := [(a_t, .inr (6, [.ref a_lines, .ref a_chart, .ref a_trial, .ref a_log, .ref a_shelves, .ref a_shown, .int k_shownCount, .int k_status_15, .int k_whyStep, .int k_whyReason, .int k_whyBarge, z_search, z_plan])), (a_chart, .inr (0, [.int k_chart_width, .int k_chart_height, .int k_chart_barges, .long k_chart_walls, .long k_chart_taken, .ref a_chart_kind, .ref a_chart_place, .ref a_chart_length, .ref a_chart_gate, .ref a_chart_across, .ref a_chart_wide, .ref a_chart_high, .ref a_chart_shape])), (a_chart_kind, .inl (cT 0, 12, .inl k_chart_kind)), (a_chart_place, .inl (cT 0, 12, .inl k_chart_place)), (a_chart_gate, .inl (cT 0, 12, .inl k_chart_gate)), (a_log, .inr (3, [.ref a_log_moves, .int k_log_first, .int k_log_done, .int k_log_undone]))]) [5, 0, 1, 2, 3, 4] rfl
      replace hD := hD.sub (ws' := [(a_t, .inr (6, [.ref a_lines, .ref a_chart, .ref a_trial, .ref a_log, .ref a_shelves, .ref a_shown, .int k_shownCount, .int k_status_15, .int k_whyStep, .int k_whyReason, .int k_whyBarge, z_search, z_plan])), (a_chart, .inr (0, [.int k_chart_width, .int k_chart_height, .int k_chart_barges, .long k_chart_walls, .long k_chart_taken, .ref a_chart_kind, .ref a_chart_place, .ref a_chart_length, .ref a_chart_gate, .ref a_chart_across, .ref a_chart_wide, .ref a_chart_high, .ref a_chart_shape])), (a_chart_kind, .inl (cT 0, 12, .inl k_chart_kind)), (a_chart_place, .inl (cT 0, 12, .inl k_chart_place)), (a_chart_gate, .inl (cT 0, 12, .inl k_chart_gate)), (a_log, .inr (3, [.ref a_log_moves, .int k_log_first, .int k_log_done, .int k_log_undone]))]) [5, 0, 1, 2, 3, 4] (by decide) rfl
      clear hPc hDc hFc hP1 hK1 hD1 hk1 hz1
      generalize H1 = H at hP hS ⊢
      replace hf := ob_t2 hf
      obtain ⟨ee0, ee1⟩ := hf
      subst ee0
      subst ee1
      exact W.iret hx hb hr (fun t ht hW => ⟨⟨_, (), rfl, rfl, by rw [ht]; exact hP, va_K.moved hW.alike hK, hD⟩, hS.F ht⟩) hS.2.2 dX6_count_95
    replace hf := ob_neg c_13 hf
    by_cases c_18 : v1 = (2 : Int32)
    · replace hf := ob_pos c_18 hf
      refine lv_tableIn (off := 71) (tgt := 96) hx hb dX6_count_25 (by rw [c_18]; decide) (by rw [c_18]; decide) (by rw [c_18]; decide) (by decide) ?_
      refine lv_aload_n hx hb dX6_count_96 rfl (lv_at hl 1 rfl) ?_
      refine lv_aload_n hx hb dX6_count_97 rfl (lv_at hl 1 rfl) ?_
      refine va_get (D := D) (ci := 6) (v := .ref a_chart) (C := RX6) (T := TX6) (N := 13) hx hb hts iw_wsX6_count_X6 hown hK hP 0 rfl rfl 1 (by decide) (hts (.fieldLink RX6 19 "BargeBasin" "chart" "LBargeBasin$Chart;") (List.mem_of_getElem? (i := 1) (by decide +kernel))) (fun _ h9 => h9) rfl dX6_count_98 ?_
      refine va_get (D := D) (ci := 0) (v := .int k_chart_barges) (C := RX0) (T := TX0) (N := 13) hx hb hts iw_wsX6_count_X0 hown hK hP 1 rfl rfl 2 (by decide) (hts (.fieldLink RX6 137 "BargeBasin$Chart" "barges" "I") (List.mem_of_getElem? (i := 5) (by decide +kernel))) (fun _ h9 => h9) rfl dX6_count_101 ?_
      replace hf := ob_b hf
      obtain ⟨⟨zr_19, k_status_20⟩, hc_21, hf⟩ := hf
      replace hf := ob_un2 hf
      have hPc := hP.sub (ws' := [(a_t, .inr (6, [.ref a_lines, .ref a_chart, .ref a_trial, .ref a_log, .ref a_shelves, .ref a_shown, .int k_shownCount, .int k_status, .int k_whyStep, .int k_whyReason, .int k_whyBarge, z_search, z_plan]))]) [0] rfl
      have hDc := hD.sub (ws' := [(a_t, .inr (6, [.ref a_lines, .ref a_chart, .ref a_trial, .ref a_log, .ref a_shelves, .ref a_shown, .int k_shownCount, .int k_status, .int k_whyStep, .int k_whyReason, .int k_whyBarge, z_search, z_plan]))]) [0] (by decide) rfl
      have hFc := va_free (wc := [(a_t, .inr (6, [.ref a_lines, .ref a_chart, .ref a_trial, .ref a_log, .ref a_shelves, .ref a_shown, .int k_shownCount, .int k_status, .int k_whyStep, .int k_whyReason, .int k_whyBarge, z_search, z_plan]))]) hD hS hA [0] rfl
      refine va_calli (va_runV (As := [.int k_chart_barges]) (rest := []) ⟨hx, hb, hml, hown, hts⟩ (c_f_BargeBasin_answer l D cT H.size a_t a_lines a_chart a_trial a_log a_shelves a_shown z_search z_plan k_shownCount k_status k_whyStep k_whyReason k_whyBarge k_chart_barges _ _ hc_21) (cwV 1 hts gX6_count_X6_answer rfl rfl rfl (by decide +kernel) ⟨Nat.le_of_ble_eq_true rfl, Nat.le_of_ble_eq_true rfl⟩) ⟨fun a U g mk q => by obtain ⟨q0, q1, qP, qK, qN, qD⟩ := q; exact ⟨q0, q1, qP, va_K.moved (u := U) (U := U.calling g mk a) (Vm.Alike.refl U.vm) qK, jNw_same (u := U) (U := U.calling g mk a) rfl qN, qD⟩, va_recv hK hP (ci := 6) (q0 := 0) rfl rfl, fun U hU hW => ⟨rfl, by rw [hU], by rw [hU]; exact hPc, va_K.moved hW.alike hK, jNw_warm hW hN, hDc.weaken (fun _ _ _ _ => trivial)⟩⟩ rfl rfl hl.1 rfl (lv_room (Nat.le_of_ble_eq_true rfl)) dX6_count_104 ⟨Nat.le_of_ble_eq_true rfl, Nat.le_of_ble_eq_true rfl⟩) hS (fun q _ h => hFc q h) hFc (fun r_19 u t H1 locs ht hvm er_22 hB hz1 hk1 hS => ?_)
      subst er_22
      obtain ⟨hP1, hK1, hD1⟩ := hB
      rw [ht] at hP1
      have hPD := va_join (wr := [(a_chart, .inr (0, [.int k_chart_width, .int k_chart_height, .int k_chart_barges, .long k_chart_walls, .long k_chart_taken, .ref a_chart_kind, .ref a_chart_place, .ref a_chart_length, .ref a_chart_gate, .ref a_chart_across, .ref a_chart_wide, .ref a_chart_high, .ref a_chart_shape])), (a_chart_kind, .inl (cT 0, 12, .inl k_chart_kind)), (a_chart_place, .inl (cT 0, 12, .inl k_chart_place)), (a_chart_gate, .inl (cT 0, 12, .inl k_chart_gate)), (a_log, .inr (3, [.ref a_log_moves, .int k_log_first, .int k_log_done, .int k_log_undone]))]) (w1 := [(a_t, .inr (6, [.ref a_lines, .ref a_chart, .ref a_trial, .ref a_log, .ref a_shelves, .ref a_shown, .int k_shownCount, .int k_status_20, .int k_whyStep, .int k_whyReason, .int k_whyBarge, z_search, z_plan]))]) hP hD [0] [1, 2, 3, 4, 5] rfl rfl (by decide) (by decide) hk1 hFc hP1 hD1
      clear hP hD
      obtain ⟨hP, hD⟩ := hPD
      replace hP := hP.sub (ws' := [(a_t, .inr (6, [.ref a_lines, .ref a_chart, .ref a_trial, .ref a_log, .ref a_shelves, .ref a_shown, .int k_shownCount, .int k_status_20, .int k_whyStep, .int k_whyReason, .int k_whyBarge, z_search, z_plan])), (a_chart, .inr (0, [.int k_chart_width, .int k_chart_height, .int k_chart_barges, .long k_chart_walls, .long k_chart_taken, .ref a_chart_kind, .ref a_chart_place, .ref a_chart_length, .ref a_chart_gate, .ref a_chart_across, .ref a_chart_wide, .ref a_chart_high, .ref a_chart_shape])), (a_chart_kind, .inl (cT 0, 12, .inl k_chart_kind)), (a_chart_place, .inl (cT 0, 12, .inl k_chart_place)), (a_chart_gate, .inl (cT 0, 12, .inl k_chart_gate)), (a_log, .inr (3, [.ref a_log_moves, .int k_log_first, .int k_log_done, .int k_log_undone]))]) [5, 0, 1, 2, 3, 4] rfl
      replace hD := hD.sub (ws' := [(a_t, .inr (6, [.ref a_lines, .ref a_chart, .ref a_trial, .ref a_log, .ref a_shelves, .ref a_shown, .int k_shownCount, .int k_status_20, .int k_whyStep, .int k_whyReason, .int k_whyBarge, z_search, z_plan])), (a_chart, .inr (0, [.int k_chart_width, .int k_chart_height, .int k_chart_barges, .long k_chart_walls, .long k_chart_taken, .ref a_chart_kind, .ref a_chart_place, .ref a_chart_length, .ref a_chart_gate, .ref a_chart_across, .ref a_chart_wide, .ref a_chart_high, .ref a_chart_shape])), (a_chart_kind, .inl (cT 0, 12, .inl k_chart_kind)), (a_chart_place, .inl (cT 0, 12, .inl k_chart_place)), (a_chart_gate, .inl (cT 0, 12, .inl k_chart_gate)), (a_log, .inr (3, [.ref a_log_moves, .int k_log_first, .int k_log_done, .int k_log_undone]))]) [5, 0, 1, 2, 3, 4] (by decide) rfl
      clear hPc hDc hFc hP1 hK1 hD1 hk1 hz1
      generalize H1 = H at hP hS ⊢
      replace hf := ob_t2 hf
      obtain ⟨ee0, ee1⟩ := hf
      subst ee0
      subst ee1
      exact W.iret hx hb hr (fun t ht hW => ⟨⟨_, (), rfl, rfl, by rw [ht]; exact hP, va_K.moved hW.alike hK, hD⟩, hS.F ht⟩) hS.2.2 dX6_count_107
    replace hf := ob_neg c_18 hf
    by_cases c_23 : v1 = (3 : Int32)
    · replace hf := ob_pos c_23 hf
      refine lv_tableIn (off := 83) (tgt := 108) hx hb dX6_count_25 (by rw [c_23]; decide) (by rw [c_23]; decide) (by rw [c_23]; decide) (by decide) ?_
      refine lv_aload_n hx hb dX6_count_108 rfl (lv_at hl 1 rfl) ?_
      refine lv_iload_n hx hb dX6_count_109 rfl (lv_at hl 0 rfl) ?_
      replace hf := ob_b hf
      obtain ⟨⟨zr_24, k_status_25⟩, hc_26, hf⟩ := hf
      replace hf := ob_un2 hf
      have hPc := hP.sub (ws' := [(a_t, .inr (6, [.ref a_lines, .ref a_chart, .ref a_trial, .ref a_log, .ref a_shelves, .ref a_shown, .int k_shownCount, .int k_status, .int k_whyStep, .int k_whyReason, .int k_whyBarge, z_search, z_plan]))]) [0] rfl
      have hDc := hD.sub (ws' := [(a_t, .inr (6, [.ref a_lines, .ref a_chart, .ref a_trial, .ref a_log, .ref a_shelves, .ref a_shown, .int k_shownCount, .int k_status, .int k_whyStep, .int k_whyReason, .int k_whyBarge, z_search, z_plan]))]) [0] (by decide) rfl
      have hFc := va_free (wc := [(a_t, .inr (6, [.ref a_lines, .ref a_chart, .ref a_trial, .ref a_log, .ref a_shelves, .ref a_shown, .int k_shownCount, .int k_status, .int k_whyStep, .int k_whyReason, .int k_whyBarge, z_search, z_plan]))]) hD hS hA [0] rfl
      refine va_calli (va_runV (As := [.int r_5]) (rest := []) ⟨hx, hb, hml, hown, hts⟩ (c_f_BargeBasin_answer l D cT H.size a_t a_lines a_chart a_trial a_log a_shelves a_shown z_search z_plan k_shownCount k_status k_whyStep k_whyReason k_whyBarge r_5 _ _ hc_26) (cwV 1 hts gX6_count_X6_answer rfl rfl rfl (by decide +kernel) ⟨Nat.le_of_ble_eq_true rfl, Nat.le_of_ble_eq_true rfl⟩) ⟨fun a U g mk q => by obtain ⟨q0, q1, qP, qK, qN, qD⟩ := q; exact ⟨q0, q1, qP, va_K.moved (u := U) (U := U.calling g mk a) (Vm.Alike.refl U.vm) qK, jNw_same (u := U) (U := U.calling g mk a) rfl qN, qD⟩, va_recv hK hP (ci := 6) (q0 := 0) rfl rfl, fun U hU hW => ⟨rfl, by rw [hU], by rw [hU]; exact hPc, va_K.moved hW.alike hK, jNw_warm hW hN, hDc.weaken (fun _ _ _ _ => trivial)⟩⟩ rfl rfl hl.1 rfl (lv_room (Nat.le_of_ble_eq_true rfl)) dX6_count_110 ⟨Nat.le_of_ble_eq_true rfl, Nat.le_of_ble_eq_true rfl⟩) hS (fun q _ h => hFc q h) hFc (fun r_24 u t H1 locs ht hvm er_27 hB hz1 hk1 hS => ?_)
      subst er_27
      obtain ⟨hP1, hK1, hD1⟩ := hB
      rw [ht] at hP1
      have hPD := va_join (wr := [(a_chart, .inr (0, [.int k_chart_width, .int k_chart_height, .int k_chart_barges, .long k_chart_walls, .long k_chart_taken, .ref a_chart_kind, .ref a_chart_place, .ref a_chart_length, .ref a_chart_gate, .ref a_chart_across, .ref a_chart_wide, .ref a_chart_high, .ref a_chart_shape])), (a_chart_kind, .inl (cT 0, 12, .inl k_chart_kind)), (a_chart_place, .inl (cT 0, 12, .inl k_chart_place)), (a_chart_gate, .inl (cT 0, 12, .inl k_chart_gate)), (a_log, .inr (3, [.ref a_log_moves, .int k_log_first, .int k_log_done, .int k_log_undone]))]) (w1 := [(a_t, .inr (6, [.ref a_lines, .ref a_chart, .ref a_trial, .ref a_log, .ref a_shelves, .ref a_shown, .int k_shownCount, .int k_status_25, .int k_whyStep, .int k_whyReason, .int k_whyBarge, z_search, z_plan]))]) hP hD [0] [1, 2, 3, 4, 5] rfl rfl (by decide) (by decide) hk1 hFc hP1 hD1
      clear hP hD
      obtain ⟨hP, hD⟩ := hPD
      replace hP := hP.sub (ws' := [(a_t, .inr (6, [.ref a_lines, .ref a_chart, .ref a_trial, .ref a_log, .ref a_shelves, .ref a_shown, .int k_shownCount, .int k_status_25, .int k_whyStep, .int k_whyReason, .int k_whyBarge, z_search, z_plan])), (a_chart, .inr (0, [.int k_chart_width, .int k_chart_height, .int k_chart_barges, .long k_chart_walls, .long k_chart_taken, .ref a_chart_kind, .ref a_chart_place, .ref a_chart_length, .ref a_chart_gate, .ref a_chart_across, .ref a_chart_wide, .ref a_chart_high, .ref a_chart_shape])), (a_chart_kind, .inl (cT 0, 12, .inl k_chart_kind)), (a_chart_place, .inl (cT 0, 12, .inl k_chart_place)), (a_chart_gate, .inl (cT 0, 12, .inl k_chart_gate)), (a_log, .inr (3, [.ref a_log_moves, .int k_log_first, .int k_log_done, .int k_log_undone]))]) [5, 0, 1, 2, 3, 4] rfl
      replace hD := hD.sub (ws' := [(a_t, .inr (6, [.ref a_lines, .ref a_chart, .ref a_trial, .ref a_log, .ref a_shelves, .ref a_shown, .int k_shownCount, .int k_status_25, .int k_whyStep, .int k_whyReason, .int k_whyBarge, z_search, z_plan])), (a_chart, .inr (0, [.int k_chart_width, .int k_chart_height, .int k_chart_barges, .long k_chart_walls, .long k_chart_taken, .ref a_chart_kind, .ref a_chart_place, .ref a_chart_length, .ref a_chart_gate, .ref a_chart_across, .ref a_chart_wide, .ref a_chart_high, .ref a_chart_shape])), (a_chart_kind, .inl (cT 0, 12, .inl k_chart_kind)), (a_chart_place, .inl (cT 0, 12, .inl k_chart_place)), (a_chart_gate, .inl (cT 0, 12, .inl k_chart_gate)), (a_log, .inr (3, [.ref a_log_moves, .int k_log_first, .int k_log_done, .int k_log_undone]))]) [5, 0, 1, 2, 3, 4] (by decide) rfl
      clear hPc hDc hFc hP1 hK1 hD1 hk1 hz1
      generalize H1 = H at hP hS ⊢
      replace hf := ob_t2 hf
      obtain ⟨ee0, ee1⟩ := hf
      subst ee0
      subst ee1
      exact W.iret hx hb hr (fun t ht hW => ⟨⟨_, (), rfl, rfl, by rw [ht]; exact hP, va_K.moved hW.alike hK, hD⟩, hS.F ht⟩) hS.2.2 dX6_count_113
    replace hf := ob_neg c_23 hf
    by_cases c_28 : v1 = (4 : Int32)
    · replace hf := ob_pos c_28 hf
      refine lv_tableIn (off := 89) (tgt := 114) hx hb dX6_count_25 (by rw [c_28]; decide) (by rw [c_28]; decide) (by rw [c_28]; decide) (by decide) ?_
      refine lv_aload_n hx hb dX6_count_114 rfl (lv_at hl 1 rfl) ?_
      refine lv_aload_n hx hb dX6_count_115 rfl (lv_at hl 1 rfl) ?_
      refine va_get (D := D) (ci := 6) (v := .ref a_chart) (C := RX6) (T := TX6) (N := 13) hx hb hts iw_wsX6_count_X6 hown hK hP 0 rfl rfl 1 (by decide) (hts (.fieldLink RX6 19 "BargeBasin" "chart" "LBargeBasin$Chart;") (List.mem_of_getElem? (i := 1) (by decide +kernel))) (fun _ h9 => h9) rfl dX6_count_116 ?_
      refine va_get (D := D) (ci := 0) (v := .int k_chart_width) (C := RX0) (T := TX0) (N := 13) hx hb hts iw_wsX6_count_X0 hown hK hP 1 rfl rfl 0 (by decide) (hts (.fieldLink RX6 75 "BargeBasin$Chart" "width" "I") (List.mem_of_getElem? (i := 3) (by decide +kernel))) (fun _ h9 => h9) rfl dX6_count_119 ?_
      refine lv_aload_n hx hb dX6_count_122 rfl (lv_at hl 1 rfl) ?_
      refine va_get (D := D) (ci := 6) (v := .ref a_chart) (C := RX6) (T := TX6) (N := 13) hx hb hts iw_wsX6_count_X6 hown hK hP 0 rfl rfl 1 (by decide) (hts (.fieldLink RX6 19 "BargeBasin" "chart" "LBargeBasin$Chart;") (List.mem_of_getElem? (i := 1) (by decide +kernel))) (fun _ h9 => h9) rfl dX6_count_123 ?_
      refine va_get (D := D) (ci := 0) (v := .int k_chart_height) (C := RX0) (T := TX0) (N := 13) hx hb hts iw_wsX6_count_X0 hown hK hP 1 rfl rfl 1 (by decide) (hts (.fieldLink RX6 180 "BargeBasin$Chart" "height" "I") (List.mem_of_getElem? (i := 4) (by decide +kernel))) (fun _ h9 => h9) rfl dX6_count_126 ?_
      refine lv_imul hx hb dX6_count_129 ?_
      refine lv_iload_n hx hb dX6_count_130 rfl (lv_at hl 0 rfl) ?_
      refine lv_isub hx hb dX6_count_131 ?_
      refine lv_aload_n hx hb dX6_count_132 rfl (lv_at hl 1 rfl) ?_
      refine va_get (D := D) (ci := 6) (v := .ref a_chart) (C := RX6) (T := TX6) (N := 13) hx hb hts iw_wsX6_count_X6 hown hK hP 0 rfl rfl 1 (by decide) (hts (.fieldLink RX6 19 "BargeBasin" "chart" "LBargeBasin$Chart;") (List.mem_of_getElem? (i := 1) (by decide +kernel))) (fun _ h9 => h9) rfl dX6_count_133 ?_
      refine va_get (D := D) (ci := 0) (v := .long k_chart_taken) (C := RX0) (T := TX0) (N := 13) hx hb hts iw_wsX6_count_X0 hown hK hP 1 rfl rfl 4 (by decide) (hts (.fieldLink RX6 183 "BargeBasin$Chart" "taken" "J") (List.mem_of_getElem? (i := 6) (by decide +kernel))) (fun _ h9 => h9) rfl dX6_count_136 ?_
      replace hf := ob_b hf
      obtain ⟨zr_29, hc_30, hf⟩ := hf
      refine vp_callSi (W.runS (As := [.long k_chart_taken]) (rest := [.int ((k_chart_width * k_chart_height) - r_5), .ref a_t]) ⟨hx, hb, hml, hown, hts⟩ (c_f_Long_bitCount l D cT k_chart_taken _ hc_30) (va_cwS 1 hts gX6_count_J13_bitCount_95d88 rfl rfl rfl (by decide +kernel) ⟨Nat.le_of_ble_eq_true rfl, Nat.le_of_ble_eq_true rfl⟩) ⟨fun a U g mk q => q, fun U hU hW => ⟨rfl, trivial⟩⟩ rfl rfl hl.1 rfl (lv_room (Nat.le_of_ble_eq_true rfl)) dX6_count_139 ⟨Nat.le_of_ble_eq_true rfl, Nat.le_of_ble_eq_true rfl⟩) (fun r_29 er_31 => ?_)
      subst er_31
      refine lv_isub hx hb dX6_count_142 ?_
      replace hf := ob_b hf
      obtain ⟨⟨zr_32, k_status_33⟩, hc_34, hf⟩ := hf
      replace hf := ob_un2 hf
      have hPc := hP.sub (ws' := [(a_t, .inr (6, [.ref a_lines, .ref a_chart, .ref a_trial, .ref a_log, .ref a_shelves, .ref a_shown, .int k_shownCount, .int k_status, .int k_whyStep, .int k_whyReason, .int k_whyBarge, z_search, z_plan]))]) [0] rfl
      have hDc := hD.sub (ws' := [(a_t, .inr (6, [.ref a_lines, .ref a_chart, .ref a_trial, .ref a_log, .ref a_shelves, .ref a_shown, .int k_shownCount, .int k_status, .int k_whyStep, .int k_whyReason, .int k_whyBarge, z_search, z_plan]))]) [0] (by decide) rfl
      have hFc := va_free (wc := [(a_t, .inr (6, [.ref a_lines, .ref a_chart, .ref a_trial, .ref a_log, .ref a_shelves, .ref a_shown, .int k_shownCount, .int k_status, .int k_whyStep, .int k_whyReason, .int k_whyBarge, z_search, z_plan]))]) hD hS hA [0] rfl
      refine va_calli (va_runV (As := [.int (((k_chart_width * k_chart_height) - r_5) - r_29)]) (rest := []) ⟨hx, hb, hml, hown, hts⟩ (c_f_BargeBasin_answer l D cT H.size a_t a_lines a_chart a_trial a_log a_shelves a_shown z_search z_plan k_shownCount k_status k_whyStep k_whyReason k_whyBarge (((k_chart_width * k_chart_height) - r_5) - r_29) _ _ hc_34) (cwV 1 hts gX6_count_X6_answer rfl rfl rfl (by decide +kernel) ⟨Nat.le_of_ble_eq_true rfl, Nat.le_of_ble_eq_true rfl⟩) ⟨fun a U g mk q => by obtain ⟨q0, q1, qP, qK, qN, qD⟩ := q; exact ⟨q0, q1, qP, va_K.moved (u := U) (U := U.calling g mk a) (Vm.Alike.refl U.vm) qK, jNw_same (u := U) (U := U.calling g mk a) rfl qN, qD⟩, va_recv hK hP (ci := 6) (q0 := 0) rfl rfl, fun U hU hW => ⟨rfl, by rw [hU], by rw [hU]; exact hPc, va_K.moved hW.alike hK, jNw_warm hW hN, hDc.weaken (fun _ _ _ _ => trivial)⟩⟩ rfl rfl hl.1 rfl (lv_room (Nat.le_of_ble_eq_true rfl)) dX6_count_143 ⟨Nat.le_of_ble_eq_true rfl, Nat.le_of_ble_eq_true rfl⟩) hS (fun q _ h => hFc q h) hFc (fun r_32 u t H1 locs ht hvm er_35 hB hz1 hk1 hS => ?_)
      subst er_35
      obtain ⟨hP1, hK1, hD1⟩ := hB
      rw [ht] at hP1
      have hPD := va_join (wr := [(a_chart, .inr (0, [.int k_chart_width, .int k_chart_height, .int k_chart_barges, .long k_chart_walls, .long k_chart_taken, .ref a_chart_kind, .ref a_chart_place, .ref a_chart_length, .ref a_chart_gate, .ref a_chart_across, .ref a_chart_wide, .ref a_chart_high, .ref a_chart_shape])), (a_chart_kind, .inl (cT 0, 12, .inl k_chart_kind)), (a_chart_place, .inl (cT 0, 12, .inl k_chart_place)), (a_chart_gate, .inl (cT 0, 12, .inl k_chart_gate)), (a_log, .inr (3, [.ref a_log_moves, .int k_log_first, .int k_log_done, .int k_log_undone]))]) (w1 := [(a_t, .inr (6, [.ref a_lines, .ref a_chart, .ref a_trial, .ref a_log, .ref a_shelves, .ref a_shown, .int k_shownCount, .int k_status_33, .int k_whyStep, .int k_whyReason, .int k_whyBarge, z_search, z_plan]))]) hP hD [0] [1, 2, 3, 4, 5] rfl rfl (by decide) (by decide) hk1 hFc hP1 hD1
      clear hP hD
      obtain ⟨hP, hD⟩ := hPD
      replace hP := hP.sub (ws' := [(a_t, .inr (6, [.ref a_lines, .ref a_chart, .ref a_trial, .ref a_log, .ref a_shelves, .ref a_shown, .int k_shownCount, .int k_status_33, .int k_whyStep, .int k_whyReason, .int k_whyBarge, z_search, z_plan])), (a_chart, .inr (0, [.int k_chart_width, .int k_chart_height, .int k_chart_barges, .long k_chart_walls, .long k_chart_taken, .ref a_chart_kind, .ref a_chart_place, .ref a_chart_length, .ref a_chart_gate, .ref a_chart_across, .ref a_chart_wide, .ref a_chart_high, .ref a_chart_shape])), (a_chart_kind, .inl (cT 0, 12, .inl k_chart_kind)), (a_chart_place, .inl (cT 0, 12, .inl k_chart_place)), (a_chart_gate, .inl (cT 0, 12, .inl k_chart_gate)), (a_log, .inr (3, [.ref a_log_moves, .int k_log_first, .int k_log_done, .int k_log_undone]))]) [5, 0, 1, 2, 3, 4] rfl
      replace hD := hD.sub (ws' := [(a_t, .inr (6, [.ref a_lines, .ref a_chart, .ref a_trial, .ref a_log, .ref a_shelves, .ref a_shown, .int k_shownCount, .int k_status_33, .int k_whyStep, .int k_whyReason, .int k_whyBarge, z_search, z_plan])), (a_chart, .inr (0, [.int k_chart_width, .int k_chart_height, .int k_chart_barges, .long k_chart_walls, .long k_chart_taken, .ref a_chart_kind, .ref a_chart_place, .ref a_chart_length, .ref a_chart_gate, .ref a_chart_across, .ref a_chart_wide, .ref a_chart_high, .ref a_chart_shape])), (a_chart_kind, .inl (cT 0, 12, .inl k_chart_kind)), (a_chart_place, .inl (cT 0, 12, .inl k_chart_place)), (a_chart_gate, .inl (cT 0, 12, .inl k_chart_gate)), (a_log, .inr (3, [.ref a_log_moves, .int k_log_first, .int k_log_done, .int k_log_undone]))]) [5, 0, 1, 2, 3, 4] (by decide) rfl
      clear hPc hDc hFc hP1 hK1 hD1 hk1 hz1
      generalize H1 = H at hP hS ⊢
      replace hf := ob_t2 hf
      obtain ⟨ee0, ee1⟩ := hf
      subst ee0
      subst ee1
      exact W.iret hx hb hr (fun t ht hW => ⟨⟨_, (), rfl, rfl, by rw [ht]; exact hP, va_K.moved hW.alike hK, hD⟩, hS.F ht⟩) hS.2.2 dX6_count_146
    replace hf := ob_neg c_28 hf
    by_cases c_36 : v1 = (5 : Int32)
    · replace hf := ob_pos c_36 hf
      refine lv_tableIn (off := 122) (tgt := 147) hx hb dX6_count_25 (by rw [c_36]; decide) (by rw [c_36]; decide) (by rw [c_36]; decide) (by decide) ?_
      refine lv_aload_n hx hb dX6_count_147 rfl (lv_at hl 1 rfl) ?_
      refine lv_aload_n hx hb dX6_count_148 rfl (lv_at hl 1 rfl) ?_
      refine va_get (D := D) (ci := 6) (v := .ref a_chart) (C := RX6) (T := TX6) (N := 13) hx hb hts iw_wsX6_count_X6 hown hK hP 0 rfl rfl 1 (by decide) (hts (.fieldLink RX6 19 "BargeBasin" "chart" "LBargeBasin$Chart;") (List.mem_of_getElem? (i := 1) (by decide +kernel))) (fun _ h9 => h9) rfl dX6_count_149 ?_
      replace hf := ob_b hf
      obtain ⟨zr_37, hc_38, hf⟩ := hf
      refine vp_callSi (W.runV (As := []) (rest := [.ref a_t]) ⟨hx, hb, hml, hown, hts⟩ (c_f_Chart_isFreed l D cT a_chart a_chart_kind a_chart_place a_chart_length a_chart_gate a_chart_across a_chart_wide a_chart_high a_chart_shape k_chart_width k_chart_height k_chart_barges k_chart_walls k_chart_taken k_chart_kind k_chart_place k_chart_gate _ hc_38) (cwV 0 hts gX6_count_X0_isFreed rfl rfl rfl (by decide +kernel) ⟨Nat.le_of_ble_eq_true rfl, Nat.le_of_ble_eq_true rfl⟩) ⟨fun a U g mk q => by obtain ⟨q0, qP, qK, qN⟩ := q; exact ⟨q0, qP, va_K.moved (u := U) (U := U.calling g mk a) (Vm.Alike.refl U.vm) qK, jNw_same (u := U) (U := U.calling g mk a) rfl qN⟩, va_recv hK hP (ci := 0) (q0 := 1) rfl rfl, fun U hU hW => ⟨rfl, by rw [hU]; exact hP.sub [1, 2, 3, 4] rfl, va_K.moved hW.alike hK, jNw_warm hW hN⟩⟩ rfl rfl hl.1 rfl (lv_room (Nat.le_of_ble_eq_true rfl)) dX6_count_152 ⟨Nat.le_of_ble_eq_true rfl, Nat.le_of_ble_eq_true rfl⟩) (fun r_37 er_39 => ?_)
      subst er_39
      refine lv_if_eq (tgt := 162) hx hb dX6_count_155 (by decide) (fun c_40 => ?_) (fun c_40 => ?_)
      · replace hf := ob_pos c_40 hf
        refine lv_iconst (v := 0) hx hb dX6_count_162 (by decide) ?_
        replace hf := ob_b hf
        obtain ⟨⟨zr_41, k_status_42⟩, hc_43, hf⟩ := hf
        replace hf := ob_un2 hf
        have hPc := hP.sub (ws' := [(a_t, .inr (6, [.ref a_lines, .ref a_chart, .ref a_trial, .ref a_log, .ref a_shelves, .ref a_shown, .int k_shownCount, .int k_status, .int k_whyStep, .int k_whyReason, .int k_whyBarge, z_search, z_plan]))]) [0] rfl
        have hDc := hD.sub (ws' := [(a_t, .inr (6, [.ref a_lines, .ref a_chart, .ref a_trial, .ref a_log, .ref a_shelves, .ref a_shown, .int k_shownCount, .int k_status, .int k_whyStep, .int k_whyReason, .int k_whyBarge, z_search, z_plan]))]) [0] (by decide) rfl
        have hFc := va_free (wc := [(a_t, .inr (6, [.ref a_lines, .ref a_chart, .ref a_trial, .ref a_log, .ref a_shelves, .ref a_shown, .int k_shownCount, .int k_status, .int k_whyStep, .int k_whyReason, .int k_whyBarge, z_search, z_plan]))]) hD hS hA [0] rfl
        refine va_calli (va_runV (As := [.int ((0 : Int32))]) (rest := []) ⟨hx, hb, hml, hown, hts⟩ (c_f_BargeBasin_answer l D cT H.size a_t a_lines a_chart a_trial a_log a_shelves a_shown z_search z_plan k_shownCount k_status k_whyStep k_whyReason k_whyBarge ((0 : Int32)) _ _ hc_43) (cwV 1 hts gX6_count_X6_answer rfl rfl rfl (by decide +kernel) ⟨Nat.le_of_ble_eq_true rfl, Nat.le_of_ble_eq_true rfl⟩) ⟨fun a U g mk q => by obtain ⟨q0, q1, qP, qK, qN, qD⟩ := q; exact ⟨q0, q1, qP, va_K.moved (u := U) (U := U.calling g mk a) (Vm.Alike.refl U.vm) qK, jNw_same (u := U) (U := U.calling g mk a) rfl qN, qD⟩, va_recv hK hP (ci := 6) (q0 := 0) rfl rfl, fun U hU hW => ⟨rfl, by rw [hU], by rw [hU]; exact hPc, va_K.moved hW.alike hK, jNw_warm hW hN, hDc.weaken (fun _ _ _ _ => trivial)⟩⟩ rfl rfl hl.1 rfl (lv_room (Nat.le_of_ble_eq_true rfl)) dX6_count_163 ⟨Nat.le_of_ble_eq_true rfl, Nat.le_of_ble_eq_true rfl⟩) hS (fun q _ h => hFc q h) hFc (fun r_41 u t H1 locs ht hvm er_44 hB hz1 hk1 hS => ?_)
        subst er_44
        obtain ⟨hP1, hK1, hD1⟩ := hB
        rw [ht] at hP1
        have hPD := va_join (wr := [(a_chart, .inr (0, [.int k_chart_width, .int k_chart_height, .int k_chart_barges, .long k_chart_walls, .long k_chart_taken, .ref a_chart_kind, .ref a_chart_place, .ref a_chart_length, .ref a_chart_gate, .ref a_chart_across, .ref a_chart_wide, .ref a_chart_high, .ref a_chart_shape])), (a_chart_kind, .inl (cT 0, 12, .inl k_chart_kind)), (a_chart_place, .inl (cT 0, 12, .inl k_chart_place)), (a_chart_gate, .inl (cT 0, 12, .inl k_chart_gate)), (a_log, .inr (3, [.ref a_log_moves, .int k_log_first, .int k_log_done, .int k_log_undone]))]) (w1 := [(a_t, .inr (6, [.ref a_lines, .ref a_chart, .ref a_trial, .ref a_log, .ref a_shelves, .ref a_shown, .int k_shownCount, .int k_status_42, .int k_whyStep, .int k_whyReason, .int k_whyBarge, z_search, z_plan]))]) hP hD [0] [1, 2, 3, 4, 5] rfl rfl (by decide) (by decide) hk1 hFc hP1 hD1
        clear hP hD
        obtain ⟨hP, hD⟩ := hPD
        replace hP := hP.sub (ws' := [(a_t, .inr (6, [.ref a_lines, .ref a_chart, .ref a_trial, .ref a_log, .ref a_shelves, .ref a_shown, .int k_shownCount, .int k_status_42, .int k_whyStep, .int k_whyReason, .int k_whyBarge, z_search, z_plan])), (a_chart, .inr (0, [.int k_chart_width, .int k_chart_height, .int k_chart_barges, .long k_chart_walls, .long k_chart_taken, .ref a_chart_kind, .ref a_chart_place, .ref a_chart_length, .ref a_chart_gate, .ref a_chart_across, .ref a_chart_wide, .ref a_chart_high, .ref a_chart_shape])), (a_chart_kind, .inl (cT 0, 12, .inl k_chart_kind)), (a_chart_place, .inl (cT 0, 12, .inl k_chart_place)), (a_chart_gate, .inl (cT 0, 12, .inl k_chart_gate)), (a_log, .inr (3, [.ref a_log_moves, .int k_log_first, .int k_log_done, .int k_log_undone]))]) [5, 0, 1, 2, 3, 4] rfl
        replace hD := hD.sub (ws' := [(a_t, .inr (6, [.ref a_lines, .ref a_chart, .ref a_trial, .ref a_log, .ref a_shelves, .ref a_shown, .int k_shownCount, .int k_status_42, .int k_whyStep, .int k_whyReason, .int k_whyBarge, z_search, z_plan])), (a_chart, .inr (0, [.int k_chart_width, .int k_chart_height, .int k_chart_barges, .long k_chart_walls, .long k_chart_taken, .ref a_chart_kind, .ref a_chart_place, .ref a_chart_length, .ref a_chart_gate, .ref a_chart_across, .ref a_chart_wide, .ref a_chart_high, .ref a_chart_shape])), (a_chart_kind, .inl (cT 0, 12, .inl k_chart_kind)), (a_chart_place, .inl (cT 0, 12, .inl k_chart_place)), (a_chart_gate, .inl (cT 0, 12, .inl k_chart_gate)), (a_log, .inr (3, [.ref a_log_moves, .int k_log_first, .int k_log_done, .int k_log_undone]))]) [5, 0, 1, 2, 3, 4] (by decide) rfl
        clear hPc hDc hFc hP1 hK1 hD1 hk1 hz1
        generalize H1 = H at hP hS ⊢
        replace hf := ob_t2 hf
        obtain ⟨ee0, ee1⟩ := hf
        subst ee0
        subst ee1
        exact W.iret hx hb hr (fun t ht hW => ⟨⟨_, (), rfl, rfl, by rw [ht]; exact hP, va_K.moved hW.alike hK, hD⟩, hS.F ht⟩) hS.2.2 dX6_count_166
      · replace hf := ob_neg c_40 hf
        refine lv_iconst (v := 1) hx hb dX6_count_158 (by decide) ?_
        refine lv_goto (tgt := 163) hx hb dX6_count_159 (by decide) ?_
        replace hf := ob_b hf
        obtain ⟨⟨zr_45, k_status_46⟩, hc_47, hf⟩ := hf
        replace hf := ob_un2 hf
        have hPc := hP.sub (ws' := [(a_t, .inr (6, [.ref a_lines, .ref a_chart, .ref a_trial, .ref a_log, .ref a_shelves, .ref a_shown, .int k_shownCount, .int k_status, .int k_whyStep, .int k_whyReason, .int k_whyBarge, z_search, z_plan]))]) [0] rfl
        have hDc := hD.sub (ws' := [(a_t, .inr (6, [.ref a_lines, .ref a_chart, .ref a_trial, .ref a_log, .ref a_shelves, .ref a_shown, .int k_shownCount, .int k_status, .int k_whyStep, .int k_whyReason, .int k_whyBarge, z_search, z_plan]))]) [0] (by decide) rfl
        have hFc := va_free (wc := [(a_t, .inr (6, [.ref a_lines, .ref a_chart, .ref a_trial, .ref a_log, .ref a_shelves, .ref a_shown, .int k_shownCount, .int k_status, .int k_whyStep, .int k_whyReason, .int k_whyBarge, z_search, z_plan]))]) hD hS hA [0] rfl
        refine va_calli (va_runV (As := [.int ((1 : Int32))]) (rest := []) ⟨hx, hb, hml, hown, hts⟩ (c_f_BargeBasin_answer l D cT H.size a_t a_lines a_chart a_trial a_log a_shelves a_shown z_search z_plan k_shownCount k_status k_whyStep k_whyReason k_whyBarge ((1 : Int32)) _ _ hc_47) (cwV 1 hts gX6_count_X6_answer rfl rfl rfl (by decide +kernel) ⟨Nat.le_of_ble_eq_true rfl, Nat.le_of_ble_eq_true rfl⟩) ⟨fun a U g mk q => by obtain ⟨q0, q1, qP, qK, qN, qD⟩ := q; exact ⟨q0, q1, qP, va_K.moved (u := U) (U := U.calling g mk a) (Vm.Alike.refl U.vm) qK, jNw_same (u := U) (U := U.calling g mk a) rfl qN, qD⟩, va_recv hK hP (ci := 6) (q0 := 0) rfl rfl, fun U hU hW => ⟨rfl, by rw [hU], by rw [hU]; exact hPc, va_K.moved hW.alike hK, jNw_warm hW hN, hDc.weaken (fun _ _ _ _ => trivial)⟩⟩ rfl rfl hl.1 rfl (lv_room (Nat.le_of_ble_eq_true rfl)) dX6_count_163 ⟨Nat.le_of_ble_eq_true rfl, Nat.le_of_ble_eq_true rfl⟩) hS (fun q _ h => hFc q h) hFc (fun r_45 u t H1 locs ht hvm er_48 hB hz1 hk1 hS => ?_)
        subst er_48
        obtain ⟨hP1, hK1, hD1⟩ := hB
        rw [ht] at hP1
        have hPD := va_join (wr := [(a_chart, .inr (0, [.int k_chart_width, .int k_chart_height, .int k_chart_barges, .long k_chart_walls, .long k_chart_taken, .ref a_chart_kind, .ref a_chart_place, .ref a_chart_length, .ref a_chart_gate, .ref a_chart_across, .ref a_chart_wide, .ref a_chart_high, .ref a_chart_shape])), (a_chart_kind, .inl (cT 0, 12, .inl k_chart_kind)), (a_chart_place, .inl (cT 0, 12, .inl k_chart_place)), (a_chart_gate, .inl (cT 0, 12, .inl k_chart_gate)), (a_log, .inr (3, [.ref a_log_moves, .int k_log_first, .int k_log_done, .int k_log_undone]))]) (w1 := [(a_t, .inr (6, [.ref a_lines, .ref a_chart, .ref a_trial, .ref a_log, .ref a_shelves, .ref a_shown, .int k_shownCount, .int k_status_46, .int k_whyStep, .int k_whyReason, .int k_whyBarge, z_search, z_plan]))]) hP hD [0] [1, 2, 3, 4, 5] rfl rfl (by decide) (by decide) hk1 hFc hP1 hD1
        clear hP hD
        obtain ⟨hP, hD⟩ := hPD
        replace hP := hP.sub (ws' := [(a_t, .inr (6, [.ref a_lines, .ref a_chart, .ref a_trial, .ref a_log, .ref a_shelves, .ref a_shown, .int k_shownCount, .int k_status_46, .int k_whyStep, .int k_whyReason, .int k_whyBarge, z_search, z_plan])), (a_chart, .inr (0, [.int k_chart_width, .int k_chart_height, .int k_chart_barges, .long k_chart_walls, .long k_chart_taken, .ref a_chart_kind, .ref a_chart_place, .ref a_chart_length, .ref a_chart_gate, .ref a_chart_across, .ref a_chart_wide, .ref a_chart_high, .ref a_chart_shape])), (a_chart_kind, .inl (cT 0, 12, .inl k_chart_kind)), (a_chart_place, .inl (cT 0, 12, .inl k_chart_place)), (a_chart_gate, .inl (cT 0, 12, .inl k_chart_gate)), (a_log, .inr (3, [.ref a_log_moves, .int k_log_first, .int k_log_done, .int k_log_undone]))]) [5, 0, 1, 2, 3, 4] rfl
        replace hD := hD.sub (ws' := [(a_t, .inr (6, [.ref a_lines, .ref a_chart, .ref a_trial, .ref a_log, .ref a_shelves, .ref a_shown, .int k_shownCount, .int k_status_46, .int k_whyStep, .int k_whyReason, .int k_whyBarge, z_search, z_plan])), (a_chart, .inr (0, [.int k_chart_width, .int k_chart_height, .int k_chart_barges, .long k_chart_walls, .long k_chart_taken, .ref a_chart_kind, .ref a_chart_place, .ref a_chart_length, .ref a_chart_gate, .ref a_chart_across, .ref a_chart_wide, .ref a_chart_high, .ref a_chart_shape])), (a_chart_kind, .inl (cT 0, 12, .inl k_chart_kind)), (a_chart_place, .inl (cT 0, 12, .inl k_chart_place)), (a_chart_gate, .inl (cT 0, 12, .inl k_chart_gate)), (a_log, .inr (3, [.ref a_log_moves, .int k_log_first, .int k_log_done, .int k_log_undone]))]) [5, 0, 1, 2, 3, 4] (by decide) rfl
        clear hPc hDc hFc hP1 hK1 hD1 hk1 hz1
        generalize H1 = H at hP hS ⊢
        replace hf := ob_t2 hf
        obtain ⟨ee0, ee1⟩ := hf
        subst ee0
        subst ee1
        exact W.iret hx hb hr (fun t ht hW => ⟨⟨_, (), rfl, rfl, by rw [ht]; exact hP, va_K.moved hW.alike hK, hD⟩, hS.F ht⟩) hS.2.2 dX6_count_166
    replace hf := ob_neg c_36 hf
    by_cases c_49 : v1 = (6 : Int32)
    · replace hf := ob_pos c_49 hf
      refine lv_tableIn (off := 142) (tgt := 167) hx hb dX6_count_25 (by rw [c_49]; decide) (by rw [c_49]; decide) (by rw [c_49]; decide) (by decide) ?_
      refine lv_aload_n hx hb dX6_count_167 rfl (lv_at hl 1 rfl) ?_
      refine lv_aload_n hx hb dX6_count_168 rfl (lv_at hl 1 rfl) ?_
      refine va_get (D := D) (ci := 6) (v := .ref a_log) (C := RX6) (T := TX6) (N := 13) hx hb hts iw_wsX6_count_X6 hown hK hP 0 rfl rfl 3 (by decide) (hts (.fieldLink RX6 29 "BargeBasin" "log" "LBargeBasin$Log;") (List.mem_of_getElem? (i := 7) (by decide +kernel))) (fun _ h9 => h9) rfl dX6_count_169 ?_
      refine va_get (D := D) (ci := 3) (v := .int k_log_done) (C := RX3) (T := TX3) (N := 4) hx hb hts iw_wsX6_count_X3 hown hK hP 5 rfl rfl 2 (by decide) (hts (.fieldLink RX6 189 "BargeBasin$Log" "done" "I") (List.mem_of_getElem? (i := 8) (by decide +kernel))) (fun _ h9 => h9) rfl dX6_count_172 ?_
      replace hf := ob_b hf
      obtain ⟨⟨zr_50, k_status_51⟩, hc_52, hf⟩ := hf
      replace hf := ob_un2 hf
      have hPc := hP.sub (ws' := [(a_t, .inr (6, [.ref a_lines, .ref a_chart, .ref a_trial, .ref a_log, .ref a_shelves, .ref a_shown, .int k_shownCount, .int k_status, .int k_whyStep, .int k_whyReason, .int k_whyBarge, z_search, z_plan]))]) [0] rfl
      have hDc := hD.sub (ws' := [(a_t, .inr (6, [.ref a_lines, .ref a_chart, .ref a_trial, .ref a_log, .ref a_shelves, .ref a_shown, .int k_shownCount, .int k_status, .int k_whyStep, .int k_whyReason, .int k_whyBarge, z_search, z_plan]))]) [0] (by decide) rfl
      have hFc := va_free (wc := [(a_t, .inr (6, [.ref a_lines, .ref a_chart, .ref a_trial, .ref a_log, .ref a_shelves, .ref a_shown, .int k_shownCount, .int k_status, .int k_whyStep, .int k_whyReason, .int k_whyBarge, z_search, z_plan]))]) hD hS hA [0] rfl
      refine va_calli (va_runV (As := [.int k_log_done]) (rest := []) ⟨hx, hb, hml, hown, hts⟩ (c_f_BargeBasin_answer l D cT H.size a_t a_lines a_chart a_trial a_log a_shelves a_shown z_search z_plan k_shownCount k_status k_whyStep k_whyReason k_whyBarge k_log_done _ _ hc_52) (cwV 1 hts gX6_count_X6_answer rfl rfl rfl (by decide +kernel) ⟨Nat.le_of_ble_eq_true rfl, Nat.le_of_ble_eq_true rfl⟩) ⟨fun a U g mk q => by obtain ⟨q0, q1, qP, qK, qN, qD⟩ := q; exact ⟨q0, q1, qP, va_K.moved (u := U) (U := U.calling g mk a) (Vm.Alike.refl U.vm) qK, jNw_same (u := U) (U := U.calling g mk a) rfl qN, qD⟩, va_recv hK hP (ci := 6) (q0 := 0) rfl rfl, fun U hU hW => ⟨rfl, by rw [hU], by rw [hU]; exact hPc, va_K.moved hW.alike hK, jNw_warm hW hN, hDc.weaken (fun _ _ _ _ => trivial)⟩⟩ rfl rfl hl.1 rfl (lv_room (Nat.le_of_ble_eq_true rfl)) dX6_count_175 ⟨Nat.le_of_ble_eq_true rfl, Nat.le_of_ble_eq_true rfl⟩) hS (fun q _ h => hFc q h) hFc (fun r_50 u t H1 locs ht hvm er_53 hB hz1 hk1 hS => ?_)
      subst er_53
      obtain ⟨hP1, hK1, hD1⟩ := hB
      rw [ht] at hP1
      have hPD := va_join (wr := [(a_chart, .inr (0, [.int k_chart_width, .int k_chart_height, .int k_chart_barges, .long k_chart_walls, .long k_chart_taken, .ref a_chart_kind, .ref a_chart_place, .ref a_chart_length, .ref a_chart_gate, .ref a_chart_across, .ref a_chart_wide, .ref a_chart_high, .ref a_chart_shape])), (a_chart_kind, .inl (cT 0, 12, .inl k_chart_kind)), (a_chart_place, .inl (cT 0, 12, .inl k_chart_place)), (a_chart_gate, .inl (cT 0, 12, .inl k_chart_gate)), (a_log, .inr (3, [.ref a_log_moves, .int k_log_first, .int k_log_done, .int k_log_undone]))]) (w1 := [(a_t, .inr (6, [.ref a_lines, .ref a_chart, .ref a_trial, .ref a_log, .ref a_shelves, .ref a_shown, .int k_shownCount, .int k_status_51, .int k_whyStep, .int k_whyReason, .int k_whyBarge, z_search, z_plan]))]) hP hD [0] [1, 2, 3, 4, 5] rfl rfl (by decide) (by decide) hk1 hFc hP1 hD1
      clear hP hD
      obtain ⟨hP, hD⟩ := hPD
      replace hP := hP.sub (ws' := [(a_t, .inr (6, [.ref a_lines, .ref a_chart, .ref a_trial, .ref a_log, .ref a_shelves, .ref a_shown, .int k_shownCount, .int k_status_51, .int k_whyStep, .int k_whyReason, .int k_whyBarge, z_search, z_plan])), (a_chart, .inr (0, [.int k_chart_width, .int k_chart_height, .int k_chart_barges, .long k_chart_walls, .long k_chart_taken, .ref a_chart_kind, .ref a_chart_place, .ref a_chart_length, .ref a_chart_gate, .ref a_chart_across, .ref a_chart_wide, .ref a_chart_high, .ref a_chart_shape])), (a_chart_kind, .inl (cT 0, 12, .inl k_chart_kind)), (a_chart_place, .inl (cT 0, 12, .inl k_chart_place)), (a_chart_gate, .inl (cT 0, 12, .inl k_chart_gate)), (a_log, .inr (3, [.ref a_log_moves, .int k_log_first, .int k_log_done, .int k_log_undone]))]) [5, 0, 1, 2, 3, 4] rfl
      replace hD := hD.sub (ws' := [(a_t, .inr (6, [.ref a_lines, .ref a_chart, .ref a_trial, .ref a_log, .ref a_shelves, .ref a_shown, .int k_shownCount, .int k_status_51, .int k_whyStep, .int k_whyReason, .int k_whyBarge, z_search, z_plan])), (a_chart, .inr (0, [.int k_chart_width, .int k_chart_height, .int k_chart_barges, .long k_chart_walls, .long k_chart_taken, .ref a_chart_kind, .ref a_chart_place, .ref a_chart_length, .ref a_chart_gate, .ref a_chart_across, .ref a_chart_wide, .ref a_chart_high, .ref a_chart_shape])), (a_chart_kind, .inl (cT 0, 12, .inl k_chart_kind)), (a_chart_place, .inl (cT 0, 12, .inl k_chart_place)), (a_chart_gate, .inl (cT 0, 12, .inl k_chart_gate)), (a_log, .inr (3, [.ref a_log_moves, .int k_log_first, .int k_log_done, .int k_log_undone]))]) [5, 0, 1, 2, 3, 4] (by decide) rfl
      clear hPc hDc hFc hP1 hK1 hD1 hk1 hz1
      generalize H1 = H at hP hS ⊢
      replace hf := ob_t2 hf
      obtain ⟨ee0, ee1⟩ := hf
      subst ee0
      subst ee1
      exact W.iret hx hb hr (fun t ht hW => ⟨⟨_, (), rfl, rfl, by rw [ht]; exact hP, va_K.moved hW.alike hK, hD⟩, hS.F ht⟩) hS.2.2 dX6_count_178
    replace hf := ob_neg c_49 hf
    by_cases c_54 : v1 = (7 : Int32)
    · replace hf := ob_pos c_54 hf
      refine lv_tableIn (off := 154) (tgt := 179) hx hb dX6_count_25 (by rw [c_54]; decide) (by rw [c_54]; decide) (by rw [c_54]; decide) (by decide) ?_
      refine lv_aload_n hx hb dX6_count_179 rfl (lv_at hl 1 rfl) ?_
      refine lv_aload_n hx hb dX6_count_180 rfl (lv_at hl 1 rfl) ?_
      refine va_get (D := D) (ci := 6) (v := .ref a_log) (C := RX6) (T := TX6) (N := 13) hx hb hts iw_wsX6_count_X6 hown hK hP 0 rfl rfl 3 (by decide) (hts (.fieldLink RX6 29 "BargeBasin" "log" "LBargeBasin$Log;") (List.mem_of_getElem? (i := 7) (by decide +kernel))) (fun _ h9 => h9) rfl dX6_count_181 ?_
      refine va_get (D := D) (ci := 3) (v := .int k_log_undone) (C := RX3) (T := TX3) (N := 4) hx hb hts iw_wsX6_count_X3 hown hK hP 5 rfl rfl 3 (by decide) (hts (.fieldLink RX6 192 "BargeBasin$Log" "undone" "I") (List.mem_of_getElem? (i := 9) (by decide +kernel))) (fun _ h9 => h9) rfl dX6_count_184 ?_
      replace hf := ob_b hf
      obtain ⟨⟨zr_55, k_status_56⟩, hc_57, hf⟩ := hf
      replace hf := ob_un2 hf
      have hPc := hP.sub (ws' := [(a_t, .inr (6, [.ref a_lines, .ref a_chart, .ref a_trial, .ref a_log, .ref a_shelves, .ref a_shown, .int k_shownCount, .int k_status, .int k_whyStep, .int k_whyReason, .int k_whyBarge, z_search, z_plan]))]) [0] rfl
      have hDc := hD.sub (ws' := [(a_t, .inr (6, [.ref a_lines, .ref a_chart, .ref a_trial, .ref a_log, .ref a_shelves, .ref a_shown, .int k_shownCount, .int k_status, .int k_whyStep, .int k_whyReason, .int k_whyBarge, z_search, z_plan]))]) [0] (by decide) rfl
      have hFc := va_free (wc := [(a_t, .inr (6, [.ref a_lines, .ref a_chart, .ref a_trial, .ref a_log, .ref a_shelves, .ref a_shown, .int k_shownCount, .int k_status, .int k_whyStep, .int k_whyReason, .int k_whyBarge, z_search, z_plan]))]) hD hS hA [0] rfl
      refine va_calli (va_runV (As := [.int k_log_undone]) (rest := []) ⟨hx, hb, hml, hown, hts⟩ (c_f_BargeBasin_answer l D cT H.size a_t a_lines a_chart a_trial a_log a_shelves a_shown z_search z_plan k_shownCount k_status k_whyStep k_whyReason k_whyBarge k_log_undone _ _ hc_57) (cwV 1 hts gX6_count_X6_answer rfl rfl rfl (by decide +kernel) ⟨Nat.le_of_ble_eq_true rfl, Nat.le_of_ble_eq_true rfl⟩) ⟨fun a U g mk q => by obtain ⟨q0, q1, qP, qK, qN, qD⟩ := q; exact ⟨q0, q1, qP, va_K.moved (u := U) (U := U.calling g mk a) (Vm.Alike.refl U.vm) qK, jNw_same (u := U) (U := U.calling g mk a) rfl qN, qD⟩, va_recv hK hP (ci := 6) (q0 := 0) rfl rfl, fun U hU hW => ⟨rfl, by rw [hU], by rw [hU]; exact hPc, va_K.moved hW.alike hK, jNw_warm hW hN, hDc.weaken (fun _ _ _ _ => trivial)⟩⟩ rfl rfl hl.1 rfl (lv_room (Nat.le_of_ble_eq_true rfl)) dX6_count_187 ⟨Nat.le_of_ble_eq_true rfl, Nat.le_of_ble_eq_true rfl⟩) hS (fun q _ h => hFc q h) hFc (fun r_55 u t H1 locs ht hvm er_58 hB hz1 hk1 hS => ?_)
      subst er_58
      obtain ⟨hP1, hK1, hD1⟩ := hB
      rw [ht] at hP1
      have hPD := va_join (wr := [(a_chart, .inr (0, [.int k_chart_width, .int k_chart_height, .int k_chart_barges, .long k_chart_walls, .long k_chart_taken, .ref a_chart_kind, .ref a_chart_place, .ref a_chart_length, .ref a_chart_gate, .ref a_chart_across, .ref a_chart_wide, .ref a_chart_high, .ref a_chart_shape])), (a_chart_kind, .inl (cT 0, 12, .inl k_chart_kind)), (a_chart_place, .inl (cT 0, 12, .inl k_chart_place)), (a_chart_gate, .inl (cT 0, 12, .inl k_chart_gate)), (a_log, .inr (3, [.ref a_log_moves, .int k_log_first, .int k_log_done, .int k_log_undone]))]) (w1 := [(a_t, .inr (6, [.ref a_lines, .ref a_chart, .ref a_trial, .ref a_log, .ref a_shelves, .ref a_shown, .int k_shownCount, .int k_status_56, .int k_whyStep, .int k_whyReason, .int k_whyBarge, z_search, z_plan]))]) hP hD [0] [1, 2, 3, 4, 5] rfl rfl (by decide) (by decide) hk1 hFc hP1 hD1
      clear hP hD
      obtain ⟨hP, hD⟩ := hPD
      replace hP := hP.sub (ws' := [(a_t, .inr (6, [.ref a_lines, .ref a_chart, .ref a_trial, .ref a_log, .ref a_shelves, .ref a_shown, .int k_shownCount, .int k_status_56, .int k_whyStep, .int k_whyReason, .int k_whyBarge, z_search, z_plan])), (a_chart, .inr (0, [.int k_chart_width, .int k_chart_height, .int k_chart_barges, .long k_chart_walls, .long k_chart_taken, .ref a_chart_kind, .ref a_chart_place, .ref a_chart_length, .ref a_chart_gate, .ref a_chart_across, .ref a_chart_wide, .ref a_chart_high, .ref a_chart_shape])), (a_chart_kind, .inl (cT 0, 12, .inl k_chart_kind)), (a_chart_place, .inl (cT 0, 12, .inl k_chart_place)), (a_chart_gate, .inl (cT 0, 12, .inl k_chart_gate)), (a_log, .inr (3, [.ref a_log_moves, .int k_log_first, .int k_log_done, .int k_log_undone]))]) [5, 0, 1, 2, 3, 4] rfl
      replace hD := hD.sub (ws' := [(a_t, .inr (6, [.ref a_lines, .ref a_chart, .ref a_trial, .ref a_log, .ref a_shelves, .ref a_shown, .int k_shownCount, .int k_status_56, .int k_whyStep, .int k_whyReason, .int k_whyBarge, z_search, z_plan])), (a_chart, .inr (0, [.int k_chart_width, .int k_chart_height, .int k_chart_barges, .long k_chart_walls, .long k_chart_taken, .ref a_chart_kind, .ref a_chart_place, .ref a_chart_length, .ref a_chart_gate, .ref a_chart_across, .ref a_chart_wide, .ref a_chart_high, .ref a_chart_shape])), (a_chart_kind, .inl (cT 0, 12, .inl k_chart_kind)), (a_chart_place, .inl (cT 0, 12, .inl k_chart_place)), (a_chart_gate, .inl (cT 0, 12, .inl k_chart_gate)), (a_log, .inr (3, [.ref a_log_moves, .int k_log_first, .int k_log_done, .int k_log_undone]))]) [5, 0, 1, 2, 3, 4] (by decide) rfl
      clear hPc hDc hFc hP1 hK1 hD1 hk1 hz1
      generalize H1 = H at hP hS ⊢
      replace hf := ob_t2 hf
      obtain ⟨ee0, ee1⟩ := hf
      subst ee0
      subst ee1
      exact W.iret hx hb hr (fun t ht hW => ⟨⟨_, (), rfl, rfl, by rw [ht]; exact hP, va_K.moved hW.alike hK, hD⟩, hS.F ht⟩) hS.2.2 dX6_count_190
    replace hf := ob_neg c_54 hf
    have nc_8 := lv_neT c_8 (a := 0) (by decide)
    have nc_13 := lv_neT c_13 (a := 1) (by decide)
    have nc_18 := lv_neT c_18 (a := 2) (by decide)
    have nc_23 := lv_neT c_23 (a := 3) (by decide)
    have nc_28 := lv_neT c_28 (a := 4) (by decide)
    have nc_36 := lv_neT c_36 (a := 5) (by decide)
    have nc_49 := lv_neT c_49 (a := 6) (by decide)
    have nc_54 := lv_neT c_54 (a := 7) (by decide)
    refine lv_tableOut (tgt := 191) hx hb dX6_count_25 (by omega) (by decide) ?_
    refine lv_aload_n hx hb dX6_count_191 rfl (lv_at hl 1 rfl) ?_
    refine lv_iconst (v := 2) hx hb dX6_count_192 (by decide) ?_
    replace hf := ob_b hf
    obtain ⟨⟨zr_59, k_status_60⟩, hc_61, hf⟩ := hf
    replace hf := ob_un2 hf
    have hPc := hP.sub (ws' := [(a_t, .inr (6, [.ref a_lines, .ref a_chart, .ref a_trial, .ref a_log, .ref a_shelves, .ref a_shown, .int k_shownCount, .int k_status, .int k_whyStep, .int k_whyReason, .int k_whyBarge, z_search, z_plan]))]) [0] rfl
    have hDc := hD.sub (ws' := [(a_t, .inr (6, [.ref a_lines, .ref a_chart, .ref a_trial, .ref a_log, .ref a_shelves, .ref a_shown, .int k_shownCount, .int k_status, .int k_whyStep, .int k_whyReason, .int k_whyBarge, z_search, z_plan]))]) [0] (by decide) rfl
    have hFc := va_free (wc := [(a_t, .inr (6, [.ref a_lines, .ref a_chart, .ref a_trial, .ref a_log, .ref a_shelves, .ref a_shown, .int k_shownCount, .int k_status, .int k_whyStep, .int k_whyReason, .int k_whyBarge, z_search, z_plan]))]) hD hS hA [0] rfl
    refine va_calli (va_runV (As := [.int ((2 : Int32))]) (rest := []) ⟨hx, hb, hml, hown, hts⟩ (c_f_BargeBasin_refuse l D cT H.size a_t a_lines a_chart a_trial a_log a_shelves a_shown z_search z_plan k_shownCount k_status k_whyStep k_whyReason k_whyBarge ((2 : Int32)) _ _ hc_61) (cwV 1 hts gX6_count_X6_refuse rfl rfl rfl (by decide +kernel) ⟨Nat.le_of_ble_eq_true rfl, Nat.le_of_ble_eq_true rfl⟩) ⟨fun a U g mk q => by obtain ⟨q0, q1, qP, qK, qN, qD⟩ := q; exact ⟨q0, q1, qP, va_K.moved (u := U) (U := U.calling g mk a) (Vm.Alike.refl U.vm) qK, jNw_same (u := U) (U := U.calling g mk a) rfl qN, qD⟩, va_recv hK hP (ci := 6) (q0 := 0) rfl rfl, fun U hU hW => ⟨rfl, by rw [hU], by rw [hU]; exact hPc, va_K.moved hW.alike hK, jNw_warm hW hN, hDc.weaken (fun _ _ _ _ => trivial)⟩⟩ rfl rfl hl.1 rfl (lv_room (Nat.le_of_ble_eq_true rfl)) dX6_count_193 ⟨Nat.le_of_ble_eq_true rfl, Nat.le_of_ble_eq_true rfl⟩) hS (fun q _ h => hFc q h) hFc (fun r_59 u t H1 locs ht hvm er_62 hB hz1 hk1 hS => ?_)
    subst er_62
    obtain ⟨hP1, hK1, hD1⟩ := hB
    rw [ht] at hP1
    have hPD := va_join (wr := [(a_chart, .inr (0, [.int k_chart_width, .int k_chart_height, .int k_chart_barges, .long k_chart_walls, .long k_chart_taken, .ref a_chart_kind, .ref a_chart_place, .ref a_chart_length, .ref a_chart_gate, .ref a_chart_across, .ref a_chart_wide, .ref a_chart_high, .ref a_chart_shape])), (a_chart_kind, .inl (cT 0, 12, .inl k_chart_kind)), (a_chart_place, .inl (cT 0, 12, .inl k_chart_place)), (a_chart_gate, .inl (cT 0, 12, .inl k_chart_gate)), (a_log, .inr (3, [.ref a_log_moves, .int k_log_first, .int k_log_done, .int k_log_undone]))]) (w1 := [(a_t, .inr (6, [.ref a_lines, .ref a_chart, .ref a_trial, .ref a_log, .ref a_shelves, .ref a_shown, .int k_shownCount, .int k_status_60, .int k_whyStep, .int k_whyReason, .int k_whyBarge, z_search, z_plan]))]) hP hD [0] [1, 2, 3, 4, 5] rfl rfl (by decide) (by decide) hk1 hFc hP1 hD1
    clear hP hD
    obtain ⟨hP, hD⟩ := hPD
    replace hP := hP.sub (ws' := [(a_t, .inr (6, [.ref a_lines, .ref a_chart, .ref a_trial, .ref a_log, .ref a_shelves, .ref a_shown, .int k_shownCount, .int k_status_60, .int k_whyStep, .int k_whyReason, .int k_whyBarge, z_search, z_plan])), (a_chart, .inr (0, [.int k_chart_width, .int k_chart_height, .int k_chart_barges, .long k_chart_walls, .long k_chart_taken, .ref a_chart_kind, .ref a_chart_place, .ref a_chart_length, .ref a_chart_gate, .ref a_chart_across, .ref a_chart_wide, .ref a_chart_high, .ref a_chart_shape])), (a_chart_kind, .inl (cT 0, 12, .inl k_chart_kind)), (a_chart_place, .inl (cT 0, 12, .inl k_chart_place)), (a_chart_gate, .inl (cT 0, 12, .inl k_chart_gate)), (a_log, .inr (3, [.ref a_log_moves, .int k_log_first, .int k_log_done, .int k_log_undone]))]) [5, 0, 1, 2, 3, 4] rfl
    replace hD := hD.sub (ws' := [(a_t, .inr (6, [.ref a_lines, .ref a_chart, .ref a_trial, .ref a_log, .ref a_shelves, .ref a_shown, .int k_shownCount, .int k_status_60, .int k_whyStep, .int k_whyReason, .int k_whyBarge, z_search, z_plan])), (a_chart, .inr (0, [.int k_chart_width, .int k_chart_height, .int k_chart_barges, .long k_chart_walls, .long k_chart_taken, .ref a_chart_kind, .ref a_chart_place, .ref a_chart_length, .ref a_chart_gate, .ref a_chart_across, .ref a_chart_wide, .ref a_chart_high, .ref a_chart_shape])), (a_chart_kind, .inl (cT 0, 12, .inl k_chart_kind)), (a_chart_place, .inl (cT 0, 12, .inl k_chart_place)), (a_chart_gate, .inl (cT 0, 12, .inl k_chart_gate)), (a_log, .inr (3, [.ref a_log_moves, .int k_log_first, .int k_log_done, .int k_log_undone]))]) [5, 0, 1, 2, 3, 4] (by decide) rfl
    clear hPc hDc hFc hP1 hK1 hD1 hk1 hz1
    generalize H1 = H at hP hS ⊢
    replace hf := ob_t2 hf
    obtain ⟨ee0, ee1⟩ := hf
    subst ee0
    subst ee1
    exact W.iret hx hb hr (fun t ht hW => ⟨⟨_, (), rfl, rfl, by rw [ht]; exact hP, va_K.moved hW.alike hK, hD⟩, hS.F ht⟩) hS.2.2 dX6_count_196
  · replace hf := ob_neg c_4 hf
    refine lv_aload_n hx hb dX6_count_7 rfl (lv_at hl 0 rfl) ?_
    refine lv_iconst (v := 1) hx hb dX6_count_8 (by decide) ?_
    replace hf := ob_b hf
    obtain ⟨⟨zr_63, k_status_64⟩, hc_65, hf⟩ := hf
    replace hf := ob_un2 hf
    have hPc := hP.sub (ws' := [(a_t, .inr (6, [.ref a_lines, .ref a_chart, .ref a_trial, .ref a_log, .ref a_shelves, .ref a_shown, .int k_shownCount, .int k_status, .int k_whyStep, .int k_whyReason, .int k_whyBarge, z_search, z_plan]))]) [0] rfl
    have hDc := hD.sub (ws' := [(a_t, .inr (6, [.ref a_lines, .ref a_chart, .ref a_trial, .ref a_log, .ref a_shelves, .ref a_shown, .int k_shownCount, .int k_status, .int k_whyStep, .int k_whyReason, .int k_whyBarge, z_search, z_plan]))]) [0] (by decide) rfl
    have hFc := va_free (wc := [(a_t, .inr (6, [.ref a_lines, .ref a_chart, .ref a_trial, .ref a_log, .ref a_shelves, .ref a_shown, .int k_shownCount, .int k_status, .int k_whyStep, .int k_whyReason, .int k_whyBarge, z_search, z_plan]))]) hD hS hA [0] rfl
    refine va_calli (va_runV (As := [.int ((1 : Int32))]) (rest := []) ⟨hx, hb, hml, hown, hts⟩ (c_f_BargeBasin_refuse l D cT H.size a_t a_lines a_chart a_trial a_log a_shelves a_shown z_search z_plan k_shownCount k_status k_whyStep k_whyReason k_whyBarge ((1 : Int32)) _ _ hc_65) (cwV 1 hts gX6_count_X6_refuse rfl rfl rfl (by decide +kernel) ⟨Nat.le_of_ble_eq_true rfl, Nat.le_of_ble_eq_true rfl⟩) ⟨fun a U g mk q => by obtain ⟨q0, q1, qP, qK, qN, qD⟩ := q; exact ⟨q0, q1, qP, va_K.moved (u := U) (U := U.calling g mk a) (Vm.Alike.refl U.vm) qK, jNw_same (u := U) (U := U.calling g mk a) rfl qN, qD⟩, va_recv hK hP (ci := 6) (q0 := 0) rfl rfl, fun U hU hW => ⟨rfl, by rw [hU], by rw [hU]; exact hPc, va_K.moved hW.alike hK, jNw_warm hW hN, hDc.weaken (fun _ _ _ _ => trivial)⟩⟩ rfl rfl hl.1 rfl (lv_room (Nat.le_of_ble_eq_true rfl)) dX6_count_9 ⟨Nat.le_of_ble_eq_true rfl, Nat.le_of_ble_eq_true rfl⟩) hS (fun q _ h => hFc q h) hFc (fun r_63 u t H1 locs ht hvm er_66 hB hz1 hk1 hS => ?_)
    subst er_66
    obtain ⟨hP1, hK1, hD1⟩ := hB
    rw [ht] at hP1
    have hPD := va_join (wr := [(a_chart, .inr (0, [.int k_chart_width, .int k_chart_height, .int k_chart_barges, .long k_chart_walls, .long k_chart_taken, .ref a_chart_kind, .ref a_chart_place, .ref a_chart_length, .ref a_chart_gate, .ref a_chart_across, .ref a_chart_wide, .ref a_chart_high, .ref a_chart_shape])), (a_chart_kind, .inl (cT 0, 12, .inl k_chart_kind)), (a_chart_place, .inl (cT 0, 12, .inl k_chart_place)), (a_chart_gate, .inl (cT 0, 12, .inl k_chart_gate)), (a_log, .inr (3, [.ref a_log_moves, .int k_log_first, .int k_log_done, .int k_log_undone]))]) (w1 := [(a_t, .inr (6, [.ref a_lines, .ref a_chart, .ref a_trial, .ref a_log, .ref a_shelves, .ref a_shown, .int k_shownCount, .int k_status_64, .int k_whyStep, .int k_whyReason, .int k_whyBarge, z_search, z_plan]))]) hP hD [0] [1, 2, 3, 4, 5] rfl rfl (by decide) (by decide) hk1 hFc hP1 hD1
    clear hP hD
    obtain ⟨hP, hD⟩ := hPD
    replace hP := hP.sub (ws' := [(a_t, .inr (6, [.ref a_lines, .ref a_chart, .ref a_trial, .ref a_log, .ref a_shelves, .ref a_shown, .int k_shownCount, .int k_status_64, .int k_whyStep, .int k_whyReason, .int k_whyBarge, z_search, z_plan])), (a_chart, .inr (0, [.int k_chart_width, .int k_chart_height, .int k_chart_barges, .long k_chart_walls, .long k_chart_taken, .ref a_chart_kind, .ref a_chart_place, .ref a_chart_length, .ref a_chart_gate, .ref a_chart_across, .ref a_chart_wide, .ref a_chart_high, .ref a_chart_shape])), (a_chart_kind, .inl (cT 0, 12, .inl k_chart_kind)), (a_chart_place, .inl (cT 0, 12, .inl k_chart_place)), (a_chart_gate, .inl (cT 0, 12, .inl k_chart_gate)), (a_log, .inr (3, [.ref a_log_moves, .int k_log_first, .int k_log_done, .int k_log_undone]))]) [5, 0, 1, 2, 3, 4] rfl
    replace hD := hD.sub (ws' := [(a_t, .inr (6, [.ref a_lines, .ref a_chart, .ref a_trial, .ref a_log, .ref a_shelves, .ref a_shown, .int k_shownCount, .int k_status_64, .int k_whyStep, .int k_whyReason, .int k_whyBarge, z_search, z_plan])), (a_chart, .inr (0, [.int k_chart_width, .int k_chart_height, .int k_chart_barges, .long k_chart_walls, .long k_chart_taken, .ref a_chart_kind, .ref a_chart_place, .ref a_chart_length, .ref a_chart_gate, .ref a_chart_across, .ref a_chart_wide, .ref a_chart_high, .ref a_chart_shape])), (a_chart_kind, .inl (cT 0, 12, .inl k_chart_kind)), (a_chart_place, .inl (cT 0, 12, .inl k_chart_place)), (a_chart_gate, .inl (cT 0, 12, .inl k_chart_gate)), (a_log, .inr (3, [.ref a_log_moves, .int k_log_first, .int k_log_done, .int k_log_undone]))]) [5, 0, 1, 2, 3, 4] (by decide) rfl
    clear hPc hDc hFc hP1 hK1 hD1 hk1 hz1
    generalize H1 = H at hP hS ⊢
    replace hf := ob_t2 hf
    obtain ⟨ee0, ee1⟩ := hf
    subst ee0
    subst ee1
    exact W.iret hx hb hr (fun t ht hW => ⟨⟨_, (), rfl, rfl, by rw [ht]; exact hP, va_K.moved hW.alike hK, hD⟩, hS.F ht⟩) hS.2.2 dX6_count_12
