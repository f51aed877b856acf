theorem iw_wsX6_planned_X6 : ∀ w ∈ wsX60, w ∈ wsX6_planned := fun _ h => List.mem_cons_of_mem _ (List.mem_append_left _ (List.mem_append_right _ h))
theorem iw_wsX6_planned_X4 : ∀ w ∈ wsX40, w ∈ wsX6_planned := fun _ h => List.mem_cons_of_mem _ (List.mem_append_right _ h)
abbrev rm_BargeBasin_planned_plan00 : Room := { frames := 0, cells := 0, slots := 0, locals := 0 }
set_option maxHeartbeats 4000000 in
set_option maxRecDepth 100000 in
theorem c_f_BargeBasin_planned_plan00 (l : Launch) (D : va_G) (cT : Nat → ClassId) (a_t a_lines a_chart a_trial a_log a_shelves a_shown : Nat) (z_search : Value) (k_shownCount : Int32) (k_status : Int32) (k_whyStep : Int32) (k_whyReason : Int32) (k_whyBarge : Int32) (v1 : Int32) (v2 : Int32) (r0 : Int32) (hf : f_BargeBasin_planned_plan00 v1 v2 = some r0) : Met l yX6_planned wsX6_planned rm_BargeBasin_planned_plan00 (va_Pc [.ref a_t, .int v1, .int v2] (fun U => va_P D vwCl [(a_t, .inr (6, [.ref a_lines, .ref a_chart, .ref a_trial, .ref a_log, .ref a_shelves, .ref a_shown, .int k_shownCount, .int k_status, .int k_whyStep, .int k_whyReason, .int k_whyBarge, z_search, .null]))] U.heap ∧ va_K D vwCl (jT cT) U ∧ jNw U)) (vp_Si (fun r => r = r0)) 0 0 (fun _ => False) := by
  refine Met.ofW (cc := cX6_planned) (maxL := 4) (ret := (some .int)) (by decide) rfl ?_
  intro p e s m args below meth c s₁ B hml hv
  obtain ⟨rfl, hP, hK, hN⟩ := hv
  have hx := B.exec
  have hb := B.bytes
  have hr := B.returns
  have hts := atoms_spec (ws := wsX6_planned) B.pre
  have hown : s.vm.findClass RX6 = some m.cls := findClass_of_methodNamed B.named
  have hlocks := B.notSynchronized
  have hl := lv_entry ([.ref a_t, .int v1, .int v2]) (n := 4) (Nat.le_of_ble_eq_true rfl)
  rw [lg_entry_eq]
  generalize (lg_sl ([.ref a_t, .int v1, .int v2]) ++ List.replicate (4 - (lg_sl ([.ref a_t, .int v1, .int v2])).length) Slot.unset).toArray = ls at hl ⊢
  have hl : lv_has ls 4 [(0, .ref a_t), (1, .int v1), (2, .int v2)] := hl
  unfold f_BargeBasin_planned_plan00 at hf
  refine lv_aload_n hx hb dX6_planned_0 rfl (lv_at hl 0 rfl) ?_
  refine va_get (D := D) (ci := 6) (v := .null) (C := RX6) (T := TX6) (N := 13) hx hb hts iw_wsX6_planned_X6 hown hK hP 0 rfl rfl 12 (by decide) (hts (.fieldLink RX6 245 "BargeBasin" "plan" "LBargeBasin$Plan;") (List.mem_of_getElem? (i := 1) (by decide +kernel))) (fun _ h9 => h9) rfl dX6_planned_1 ?_
  refine lv_ifnullN (tgt := 22) hx hb dX6_planned_4 (by decide) ?_
  refine lv_iconst (v := -1) hx hb dX6_planned_22 (by decide) ?_
  cases hf
  exact W.iret hx hb hr (fun t ht hW => ⟨_, rfl, rfl, ht⟩) (fun q h => by cases h) dX6_planned_23
abbrev rm_BargeBasin_planned_plan11 : Room := { frames := 1, cells := 0, slots := 0, locals := 20 }
set_option maxHeartbeats 4000000 in
set_option maxRecDepth 100000 in
theorem c_f_BargeBasin_planned_plan11 (l : Launch) (D : va_G) (cT : Nat → ClassId) (a_t a_lines a_chart a_trial a_log a_shelves a_shown a_plan a_plan_moves : Nat) (z_search : Value) (k_shownCount : Int32) (k_status : Int32) (k_whyStep : Int32) (k_whyReason : Int32) (k_whyBarge : Int32) (k_plan_size : Int32) (k_plan_moves : Nat → Int32) (v1 : Int32) (v2 : Int32) (r0 : Int32) (hf : f_BargeBasin_planned_plan11 v1 v2 k_plan_size k_plan_moves = some r0) : Met l yX6_planned wsX6_planned rm_BargeBasin_planned_plan11 (va_Pc [.ref a_t, .int v1, .int v2] (fun U => va_P D vwCl [(a_t, .inr (6, [.ref a_lines, .ref a_chart, .ref a_trial, .ref a_log, .ref a_shelves, .ref a_shown, .int k_shownCount, .int k_status, .int k_whyStep, .int k_whyReason, .int k_whyBarge, z_search, .ref a_plan])), (a_plan, .inr (4, [.ref a_plan_moves, .int k_plan_size])), (a_plan_moves, .inl (cT 0, 6000, .inl k_plan_moves))] U.heap ∧ va_K D vwCl (jT cT) U ∧ jNw U)) (vp_Si (fun r => r = r0)) 0 0 (fun _ => False) := by
  refine Met.ofW (cc := cX6_planned) (maxL := 4) (ret := (some .int)) (by decide) rfl ?_
  intro p e s m args below meth c s₁ B hml hv
  obtain ⟨rfl, hP, hK, hN⟩ := hv
  have hx := B.exec
  have hb := B.bytes
  have hr := B.returns
  have hts := atoms_spec (ws := wsX6_planned) B.pre
  have hown : s.vm.findClass RX6 = some m.cls := findClass_of_methodNamed B.named
  have hlocks := B.notSynchronized
  have hl := lv_entry ([.ref a_t, .int v1, .int v2]) (n := 4) (Nat.le_of_ble_eq_true rfl)
  rw [lg_entry_eq]
  generalize (lg_sl ([.ref a_t, .int v1, .int v2]) ++ List.replicate (4 - (lg_sl ([.ref a_t, .int v1, .int v2])).length) Slot.unset).toArray = ls at hl ⊢
  have hl : lv_has ls 4 [(0, .ref a_t), (1, .int v1), (2, .int v2)] := hl
  unfold f_BargeBasin_planned_plan11 at hf
  refine lv_aload_n hx hb dX6_planned_0 rfl (lv_at hl 0 rfl) ?_
  refine va_get (D := D) (ci := 6) (v := .ref a_plan) (C := RX6) (T := TX6) (N := 13) hx hb hts iw_wsX6_planned_X6 hown hK hP 0 rfl rfl 12 (by decide) (hts (.fieldLink RX6 245 "BargeBasin" "plan" "LBargeBasin$Plan;") (List.mem_of_getElem? (i := 1) (by decide +kernel))) (fun _ h9 => h9) rfl dX6_planned_1 ?_
  refine lv_ifnull hx hb dX6_planned_4 ?_
  refine lv_iload_n hx hb dX6_planned_7 rfl (lv_at hl 1 rfl) ?_
  refine lv_if_lt (tgt := 22) hx hb dX6_planned_8 (by decide) (fun c_1 => ?_) (fun c_1 => ?_)
  · replace hf := ob_pos c_1 hf
    refine lv_iconst (v := -1) hx hb dX6_planned_22 (by decide) ?_
    cases hf
    exact W.iret hx hb hr (fun t ht hW => ⟨_, rfl, rfl, ht⟩) (fun q h => by cases h) dX6_planned_23
  · replace hf := ob_neg c_1 hf
    refine lv_iload_n hx hb dX6_planned_11 rfl (lv_at hl 1 rfl) ?_
    refine lv_aload_n hx hb dX6_planned_12 rfl (lv_at hl 0 rfl) ?_
    refine va_get (D := D) (ci := 6) (v := .ref a_plan) (C := RX6) (T := TX6) (N := 13) hx hb hts iw_wsX6_planned_X6 hown hK hP 0 rfl rfl 12 (by decide) (hts (.fieldLink RX6 245 "BargeBasin" "plan" "LBargeBasin$Plan;") (List.mem_of_getElem? (i := 1) (by decide +kernel))) (fun _ h9 => h9) rfl dX6_planned_13 ?_
    refine va_get (D := D) (ci := 4) (v := .int k_plan_size) (C := RX4) (T := TX4) (N := 2) hx hb hts iw_wsX6_planned_X4 hown hK hP 1 rfl rfl 1 (by decide) (hts (.fieldLink RX6 249 "BargeBasin$Plan" "size" "I") (List.mem_of_getElem? (i := 2) (by decide +kernel))) (fun _ h9 => h9) rfl dX6_planned_16 ?_
    refine lv_icmp_lt (tgt := 24) hx hb dX6_planned_19 (by decide) (fun c_2 => ?_) (fun c_2 => ?_)
    · replace hf := ob_pos c_2 hf
      refine lv_aload_n hx hb dX6_planned_24 rfl (lv_at hl 0 rfl) ?_
      refine va_get (D := D) (ci := 6) (v := .ref a_plan) (C := RX6) (T := TX6) (N := 13) hx hb hts iw_wsX6_planned_X6 hown hK hP 0 rfl rfl 12 (by decide) (hts (.fieldLink RX6 245 "BargeBasin" "plan" "LBargeBasin$Plan;") (List.mem_of_getElem? (i := 1) (by decide +kernel))) (fun _ h9 => h9) rfl dX6_planned_25 ?_
      refine va_get (D := D) (ci := 4) (v := .ref a_plan_moves) (C := RX4) (T := TX4) (N := 2) hx hb hts iw_wsX6_planned_X4 hown hK hP 1 rfl rfl 0 (by decide) (hts (.fieldLink RX6 254 "BargeBasin$Plan" "moves" "[I") (List.mem_of_getElem? (i := 3) (by decide +kernel))) (fun _ h9 => h9) rfl dX6_planned_28 ?_
      refine lv_iload_n hx hb dX6_planned_31 rfl (lv_at hl 1 rfl) ?_
      replace hf := ob_grd hf
      obtain ⟨hi_3, hf⟩ := hf
      refine va_iald hx hb hK hP 2 0 rfl rfl hi_3 dX6_planned_32 ?_
      refine lv_topi (fun v3_4 ev3_4 => ?_)
      replace hf := ob_nm ev3_4 hf
      refine lv_istore_n (lv' := [(3, .int v3_4), (0, .ref a_t), (1, .int v1), (2, .int v2)]) hx hb dX6_planned_33 rfl hl (by decide) rfl (fun ls hl => ?_)
      refine lv_iload_n hx hb dX6_planned_34 rfl (lv_at hl 3 rfl) ?_
      by_cases c_5 : v2 = (0 : Int32)
      · replace hf := ob_pos c_5 hf
        refine lv_tableIn (off := 25) (tgt := 60) hx hb dX6_planned_35 (by rw [c_5]; decide) (by rw [c_5]; decide) (by rw [c_5]; decide) (by decide) ?_
        refine lv_iload_n hx hb dX6_planned_60 rfl (lv_at hl 0 rfl) ?_
        replace hf := ob_b hf
        obtain ⟨zr_6, hc_7, hf⟩ := hf
        refine vp_callSi (W.runS (As := [.int v3_4]) (rest := []) ⟨hx, hb, hml, hown, hts⟩ (c_f_BargeBasin_bargeOf l D cT v3_4 _ hc_7) (cwS 1 hts gX6_planned_X6_bargeOf rfl rfl rfl (by decide +kernel) ⟨Nat.le_of_ble_eq_true rfl, Nat.le_of_ble_eq_true rfl⟩) ⟨fun a U g mk q => q, fun U hU hW => ⟨rfl, trivial⟩⟩ rfl rfl hl.1 rfl (lv_room (Nat.le_of_ble_eq_true rfl)) dX6_planned_61 ⟨Nat.le_of_ble_eq_true rfl, Nat.le_of_ble_eq_true rfl⟩) (fun r_6 er_8 => ?_)
        subst er_8
        cases hf
        exact W.iret hx hb hr (fun t ht hW => ⟨_, rfl, rfl, ht⟩) (fun q h => by cases h) dX6_planned_64
      replace hf := ob_neg c_5 hf
      by_cases c_9 : v2 = (1 : Int32)
      · replace hf := ob_pos c_9 hf
        refine lv_tableIn (off := 30) (tgt := 65) hx hb dX6_planned_35 (by rw [c_9]; decide) (by rw [c_9]; decide) (by rw [c_9]; decide) (by decide) ?_
        refine lv_iload_n hx hb dX6_planned_65 rfl (lv_at hl 0 rfl) ?_
        replace hf := ob_b hf
        obtain ⟨zr_10, hc_11, hf⟩ := hf
        refine vp_callSi (W.runS (As := [.int v3_4]) (rest := []) ⟨hx, hb, hml, hown, hts⟩ (c_f_BargeBasin_directionOf l D cT v3_4 _ hc_11) (cwS 1 hts gX6_planned_X6_directionOf rfl rfl rfl (by decide +kernel) ⟨Nat.le_of_ble_eq_true rfl, Nat.le_of_ble_eq_true rfl⟩) ⟨fun a U g mk q => q, fun U hU hW => ⟨rfl, trivial⟩⟩ rfl rfl hl.1 rfl (lv_room (Nat.le_of_ble_eq_true rfl)) dX6_planned_66 ⟨Nat.le_of_ble_eq_true rfl, Nat.le_of_ble_eq_true rfl⟩) (fun r_10 er_12 => ?_)
        subst er_12
        cases hf
        exact W.iret hx hb hr (fun t ht hW => ⟨_, rfl, rfl, ht⟩) (fun q h => by cases h) dX6_planned_69
      replace hf := ob_neg c_9 hf
      by_cases c_13 : v2 = (2 : Int32)
      · replace hf := ob_pos c_13 hf
        refine lv_tableIn (off := 35) (tgt := 70) hx hb dX6_planned_35 (by rw [c_13]; decide) (by rw [c_13]; decide) (by rw [c_13]; decide) (by decide) ?_
        refine lv_iload_n hx hb dX6_planned_70 rfl (lv_at hl 0 rfl) ?_
        replace hf := ob_b hf
        obtain ⟨zr_14, hc_15, hf⟩ := hf
        refine vp_callSi (W.runS (As := [.int v3_4]) (rest := []) ⟨hx, hb, hml, hown, hts⟩ (c_f_BargeBasin_stepsOf l D cT v3_4 _ hc_15) (cwS 1 hts gX6_planned_X6_stepsOf rfl rfl rfl (by decide +kernel) ⟨Nat.le_of_ble_eq_true rfl, Nat.le_of_ble_eq_true rfl⟩) ⟨fun a U g mk q => q, fun U hU hW => ⟨rfl, trivial⟩⟩ rfl rfl hl.1 rfl (lv_room (Nat.le_of_ble_eq_true rfl)) dX6_planned_71 ⟨Nat.le_of_ble_eq_true rfl, Nat.le_of_ble_eq_true rfl⟩) (fun r_14 er_16 => ?_)
        subst er_16
        cases hf
        exact W.iret hx hb hr (fun t ht hW => ⟨_, rfl, rfl, ht⟩) (fun q h => by cases h) dX6_planned_74
      replace hf := ob_neg c_13 hf
      have nc_5 := lv_neT c_5 (a := 0) (by decide)
      have nc_9 := lv_neT c_9 (a := 1) (by decide)
      have nc_13 := lv_neT c_13 (a := 2) (by decide)
      refine lv_tableOut (tgt := 75) hx hb dX6_planned_35 (by omega) (by decide) ?_
      refine lv_iconst (v := -1) hx hb dX6_planned_75 (by decide) ?_
      cases hf
      exact W.iret hx hb hr (fun t ht hW => ⟨_, rfl, rfl, ht⟩) (fun q h => by cases h) dX6_planned_76
    · replace hf := ob_neg c_2 hf
      refine lv_iconst (v := -1) hx hb dX6_planned_22 (by decide) ?_
      cases hf
      exact W.iret hx hb hr (fun t ht hW => ⟨_, rfl, rfl, ht⟩) (fun q h => by cases h) dX6_planned_23
theorem iw_wsX6_follow_X6 : ∀ w ∈ wsX60, w ∈ wsX6_follow := fun _ h => List.mem_cons_of_mem _ (List.mem_append_left _ (List.mem_append_left _ (List.mem_append_left _ (List.mem_append_right _ h))))
theorem iw_wsX6_follow_X4 : ∀ w ∈ wsX40, w ∈ wsX6_follow := fun _ h => List.mem_cons_of_mem _ (List.mem_append_left _ (List.mem_append_left _ (List.mem_append_right _ h)))
theorem iw_wsX6_follow_X0 : ∀ w ∈ wsX00, w ∈ wsX6_follow := fun _ h => List.mem_cons_of_mem _ (List.mem_append_left _ (List.mem_append_right _ h))
theorem iw_wsX6_follow_X3 : ∀ w ∈ wsX30, w ∈ wsX6_follow := fun _ h => List.mem_cons_of_mem _ (List.mem_append_right _ h)
abbrev rm_BargeBasin_follow_plan00 : Room := { frames := 1, cells := 0, slots := 0, locals := 21 }
set_option maxHeartbeats 4000000 in
set_option maxRecDepth 100000 in
theorem c_f_BargeBasin_follow_plan00 (l : Launch) (D : va_G) (cT : Nat → ClassId) (sz : Nat) (a_t a_lines a_chart a_trial a_log a_shelves a_shown a_chart_kind a_chart_place a_chart_length a_chart_gate a_chart_across a_chart_wide a_chart_high a_chart_shape : Nat) (z_search : Value) (k_shownCount : Int32) (k_status : Int32) (k_whyStep : Int32) (k_whyReason : Int32) (k_whyBarge : Int32) (k_chart_width : Int32) (k_chart_height : Int32) (k_chart_barges : Int32) (k_chart_walls : Int64) (k_chart_taken : Int64) (v1 : Int32) (v2 : Int32) (r0 : Int32) (k_status' : Int32) (hf : f_BargeBasin_follow_plan00 v1 v2 k_status k_chart_width = some (r0, k_status')) : Met l yX6_follow wsX6_follow rm_BargeBasin_follow_plan00 (va_Pc [.ref a_t, .int v1, .int v2] (fun U => U.heap.size = sz ∧ va_P D vwCl [(a_t, .inr (6, [.ref a_lines, .ref a_chart, .ref a_trial, .ref a_log, .ref a_shelves, .ref a_shown, .int k_shownCount, .int k_status, .int k_whyStep, .int k_whyReason, .int k_whyBarge, z_search, .null])), (a_chart, .inr (0, [.int k_chart_width, .int k_chart_height, .int k_chart_barges, .long k_chart_walls, .long k_chart_taken, .ref a_chart_kind, .ref a_chart_place, .ref a_chart_length, .ref a_chart_gate, .ref a_chart_across, .ref a_chart_wide, .ref a_chart_high, .ref a_chart_shape]))] U.heap ∧ va_K D vwCl (jT cT) U ∧ jNw U ∧ va_D (fun _ => True) [(a_t, .inr (6, [.ref a_lines, .ref a_chart, .ref a_trial, .ref a_log, .ref a_shelves, .ref a_shown, .int k_shownCount, .int k_status, .int k_whyStep, .int k_whyReason, .int k_whyBarge, z_search, .null])), (a_chart, .inr (0, [.int k_chart_width, .int k_chart_height, .int k_chart_barges, .long k_chart_walls, .long k_chart_taken, .ref a_chart_kind, .ref a_chart_place, .ref a_chart_length, .ref a_chart_gate, .ref a_chart_across, .ref a_chart_wide, .ref a_chart_high, .ref a_chart_shape]))])) (va_Qi (fun r (_ : Unit) => r = r0) (fun (_ : Unit) t => va_P D vwCl [(a_t, .inr (6, [.ref a_lines, .ref a_chart, .ref a_trial, .ref a_log, .ref a_shelves, .ref a_shown, .int k_shownCount, .int k_status', .int k_whyStep, .int k_whyReason, .int k_whyBarge, z_search, .null])), (a_chart, .inr (0, [.int k_chart_width, .int k_chart_height, .int k_chart_barges, .long k_chart_walls, .long k_chart_taken, .ref a_chart_kind, .ref a_chart_place, .ref a_chart_length, .ref a_chart_gate, .ref a_chart_across, .ref a_chart_wide, .ref a_chart_high, .ref a_chart_shape]))] t.heap ∧ va_K D vwCl (jT cT) t ∧ va_D (va_A [(a_t, .inr (6, [.ref a_lines, .ref a_chart, .ref a_trial, .ref a_log, .ref a_shelves, .ref a_shown, .int k_shownCount, .int k_status, .int k_whyStep, .int k_whyReason, .int k_whyBarge, z_search, .null])), (a_chart, .inr (0, [.int k_chart_width, .int k_chart_height, .int k_chart_barges, .long k_chart_walls, .long k_chart_taken, .ref a_chart_kind, .ref a_chart_place, .ref a_chart_length, .ref a_chart_gate, .ref a_chart_across, .ref a_chart_wide, .ref a_chart_high, .ref a_chart_shape]))] sz) [(a_t, .inr (6, [.ref a_lines, .ref a_chart, .ref a_trial, .ref a_log, .ref a_shelves, .ref a_shown, .int k_shownCount, .int k_status', .int k_whyStep, .int k_whyReason, .int k_whyBarge, z_search, .null])), (a_chart, .inr (0, [.int k_chart_width, .int k_chart_height, .int k_chart_barges, .long k_chart_walls, .long k_chart_taken, .ref a_chart_kind, .ref a_chart_place, .ref a_chart_length, .ref a_chart_gate, .ref a_chart_across, .ref a_chart_wide, .ref a_chart_high, .ref a_chart_shape]))]) (va_A [(a_t, .inr (6, [.ref a_lines, .ref a_chart, .ref a_trial, .ref a_log, .ref a_shelves, .ref a_shown, .int k_shownCount, .int k_status, .int k_whyStep, .int k_whyReason, .int k_whyBarge, z_search, .null])), (a_chart, .inr (0, [.int k_chart_width, .int k_chart_height, .int k_chart_barges, .long k_chart_walls, .long k_chart_taken, .ref a_chart_kind, .ref a_chart_place, .ref a_chart_length, .ref a_chart_gate, .ref a_chart_across, .ref a_chart_wide, .ref a_chart_high, .ref a_chart_shape]))] sz)) 0 0 (va_A [(a_t, .inr (6, [.ref a_lines, .ref a_chart, .ref a_trial, .ref a_log, .ref a_shelves, .ref a_shown, .int k_shownCount, .int k_status, .int k_whyStep, .int k_whyReason, .int k_whyBarge, z_search, .null])), (a_chart, .inr (0, [.int k_chart_width, .int k_chart_height, .int k_chart_barges, .long k_chart_walls, .long k_chart_taken, .ref a_chart_kind, .ref a_chart_place, .ref a_chart_length, .ref a_chart_gate, .ref a_chart_across, .ref a_chart_wide, .ref a_chart_high, .ref a_chart_shape]))] sz) := by
  refine Met.ofW (cc := cX6_follow) (maxL := 6) (ret := (some .int)) (by decide) rfl ?_
  intro p e s m args below meth c s₁ B hml hv
  obtain ⟨rfl, hsz, hP, hK, hN, hD0⟩ := hv
  have hx := B.exec
  have hb := B.bytes
  have hr := B.returns
  have hts := atoms_spec (ws := wsX6_follow) B.pre
  have hown : s.vm.findClass RX6 = some m.cls := findClass_of_methodNamed B.named
  have hlocks := B.notSynchronized
  subst hsz
  have hD := hD0.self (sz := s.heap.size)
  clear hD0
  generalize hAe : va_A [(a_t, .inr (6, [.ref a_lines, .ref a_chart, .ref a_trial, .ref a_log, .ref a_shelves, .ref a_shown, .int k_shownCount, .int k_status, .int k_whyStep, .int k_whyReason, .int k_whyBarge, z_search, .null])), (a_chart, .inr (0, [.int k_chart_width, .int k_chart_height, .int k_chart_barges, .long k_chart_walls, .long k_chart_taken, .ref a_chart_kind, .ref a_chart_place, .ref a_chart_length, .ref a_chart_gate, .ref a_chart_across, .ref a_chart_wide, .ref a_chart_high, .ref a_chart_shape]))] s.heap.size = A at hD ⊢
  have hA : ∀ q : Nat, s.heap.size ≤ q → A q := fun q h => by rw [← hAe]; exact Or.inr h
  clear hAe
  have hl := lv_entry ([.ref a_t, .int v1, .int v2]) (n := 6) (Nat.le_of_ble_eq_true rfl)
  rw [lg_entry_eq]
  generalize (lg_sl ([.ref a_t, .int v1, .int v2]) ++ List.replicate (6 - (lg_sl ([.ref a_t, .int v1, .int v2])).length) Slot.unset).toArray = ls at hl ⊢
  have hl : lv_has ls 6 [(0, .ref a_t), (1, .int v1), (2, .int v2)] := hl
  refine j_start (A := A) hP (fun H locs hP hS => ?_)
  unfold f_BargeBasin_follow_plan00 at hf
  refine lv_aload_n hx hb dX6_follow_0 rfl (lv_at hl 0 rfl) ?_
  replace hf := ob_b hf
  obtain ⟨zr_1, hc_2, hf⟩ := hf
  refine vp_callSi (W.runV (As := []) (rest := []) ⟨hx, hb, hml, hown, hts⟩ (c_f_BargeBasin_hasNoBasin l D cT a_t a_lines a_chart a_trial a_log a_shelves a_shown a_chart_kind a_chart_place a_chart_length a_chart_gate a_chart_across a_chart_wide a_chart_high a_chart_shape z_search .null k_shownCount k_status k_whyStep k_whyReason k_whyBarge k_chart_width k_chart_height k_chart_barges k_chart_walls k_chart_taken _ hc_2) (cwV 0 hts gX6_follow_X6_hasNoBasin rfl rfl rfl (by decide +kernel) ⟨Nat.le_of_ble_eq_true rfl, Nat.le_of_ble_eq_true rfl⟩) ⟨fun a U g mk q => by obtain ⟨q0, qP, qK, qN⟩ := q; exact ⟨q0, qP, va_K.moved (u := U) (U := U.calling g mk a) (Vm.Alike.refl U.vm) qK, jNw_same (u := U) (U := U.calling g mk a) rfl qN⟩, va_recv hK hP (ci := 6) (q0 := 0) rfl rfl, fun U hU hW => ⟨rfl, by rw [hU]; exact hP.sub [0, 1] rfl, va_K.moved hW.alike hK, jNw_warm hW hN⟩⟩ rfl rfl hl.1 rfl (lv_room (Nat.le_of_ble_eq_true rfl)) dX6_follow_1 ⟨Nat.le_of_ble_eq_true rfl, Nat.le_of_ble_eq_true rfl⟩) (fun r_1 er_3 => ?_)
  subst er_3
  refine lv_if_eq (tgt := 13) hx hb dX6_follow_4 (by decide) (fun c_4 => ?_) (fun c_4 => ?_)
  · replace hf := ob_pos c_4 hf
    refine lv_iload_n hx hb dX6_follow_13 rfl (lv_at hl 1 rfl) ?_
    refine lv_if_lt (tgt := 21) hx hb dX6_follow_14 (by decide) (fun c_5 => ?_) (fun c_5 => ?_)
    · replace hf := ob_pos c_5 hf
      refine lv_aload_n hx hb dX6_follow_21 rfl (lv_at hl 0 rfl) ?_
      refine lv_iconst (v := 2) hx hb dX6_follow_22 (by decide) ?_
      replace hf := ob_b hf
      obtain ⟨⟨zr_6, k_status_7⟩, hc_8, hf⟩ := hf
      replace hf := ob_un2 hf
      have hPc := hP.sub (ws' := [(a_t, .inr (6, [.ref a_lines, .ref a_chart, .ref a_trial, .ref a_log, .ref a_shelves, .ref a_shown, .int k_shownCount, .int k_status, .int k_whyStep, .int k_whyReason, .int k_whyBarge, z_search, .null]))]) [0] rfl
      have hDc := hD.sub (ws' := [(a_t, .inr (6, [.ref a_lines, .ref a_chart, .ref a_trial, .ref a_log, .ref a_shelves, .ref a_shown, .int k_shownCount, .int k_status, .int k_whyStep, .int k_whyReason, .int k_whyBarge, z_search, .null]))]) [0] (by decide) rfl
      have hFc := va_free (wc := [(a_t, .inr (6, [.ref a_lines, .ref a_chart, .ref a_trial, .ref a_log, .ref a_shelves, .ref a_shown, .int k_shownCount, .int k_status, .int k_whyStep, .int k_whyReason, .int k_whyBarge, z_search, .null]))]) hD hS hA [0] rfl
      refine va_calli (va_runV (As := [.int ((2 : Int32))]) (rest := []) ⟨hx, hb, hml, hown, hts⟩ (c_f_BargeBasin_refuse l D cT H.size a_t a_lines a_chart a_trial a_log a_shelves a_shown z_search .null k_shownCount k_status k_whyStep k_whyReason k_whyBarge ((2 : Int32)) _ _ hc_8) (cwV 1 hts gX6_follow_X6_refuse rfl rfl rfl (by decide +kernel) ⟨Nat.le_of_ble_eq_true rfl, Nat.le_of_ble_eq_true rfl⟩) ⟨fun a U g mk q => by obtain ⟨q0, q1, qP, qK, qN, qD⟩ := q; exact ⟨q0, q1, qP, va_K.moved (u := U) (U := U.calling g mk a) (Vm.Alike.refl U.vm) qK, jNw_same (u := U) (U := U.calling g mk a) rfl qN, qD⟩, va_recv hK hP (ci := 6) (q0 := 0) rfl rfl, fun U hU hW => ⟨rfl, by rw [hU], by rw [hU]; exact hPc, va_K.moved hW.alike hK, jNw_warm hW hN, hDc.weaken (fun _ _ _ _ => trivial)⟩⟩ rfl rfl hl.1 rfl (lv_room (Nat.le_of_ble_eq_true rfl)) dX6_follow_23 ⟨Nat.le_of_ble_eq_true rfl, Nat.le_of_ble_eq_true rfl⟩) hS (fun q _ h => hFc q h) hFc (fun r_6 u t H1 locs ht hvm er_9 hB hz1 hk1 hS => ?_)
      subst er_9
      obtain ⟨hP1, hK1, hD1⟩ := hB
      rw [ht] at hP1
      have hPD := va_join (wr := [(a_chart, .inr (0, [.int k_chart_width, .int k_chart_height, .int k_chart_barges, .long k_chart_walls, .long k_chart_taken, .ref a_chart_kind, .ref a_chart_place, .ref a_chart_length, .ref a_chart_gate, .ref a_chart_across, .ref a_chart_wide, .ref a_chart_high, .ref a_chart_shape]))]) (w1 := [(a_t, .inr (6, [.ref a_lines, .ref a_chart, .ref a_trial, .ref a_log, .ref a_shelves, .ref a_shown, .int k_shownCount, .int k_status_7, .int k_whyStep, .int k_whyReason, .int k_whyBarge, z_search, .null]))]) hP hD [0] [1] rfl rfl (by decide) (by decide) hk1 hFc hP1 hD1
      clear hP hD
      obtain ⟨hP, hD⟩ := hPD
      replace hP := hP.sub (ws' := [(a_t, .inr (6, [.ref a_lines, .ref a_chart, .ref a_trial, .ref a_log, .ref a_shelves, .ref a_shown, .int k_shownCount, .int k_status_7, .int k_whyStep, .int k_whyReason, .int k_whyBarge, z_search, .null])), (a_chart, .inr (0, [.int k_chart_width, .int k_chart_height, .int k_chart_barges, .long k_chart_walls, .long k_chart_taken, .ref a_chart_kind, .ref a_chart_place, .ref a_chart_length, .ref a_chart_gate, .ref a_chart_across, .ref a_chart_wide, .ref a_chart_high, .ref a_chart_shape]))]) [1, 0] rfl
      replace hD := hD.sub (ws' := [(a_t, .inr (6, [.ref a_lines, .ref a_chart, .ref a_trial, .ref a_log, .ref a_shelves, .ref a_shown, .int k_shownCount, .int k_status_7, .int k_whyStep, .int k_whyReason, .int k_whyBarge, z_search, .null])), (a_chart, .inr (0, [.int k_chart_width, .int k_chart_height, .int k_chart_barges, .long k_chart_walls, .long k_chart_taken, .ref a_chart_kind, .ref a_chart_place, .ref a_chart_length, .ref a_chart_gate, .ref a_chart_across, .ref a_chart_wide, .ref a_chart_high, .ref a_chart_shape]))]) [1, 0] (by decide) rfl
      clear hPc hDc hFc hP1 hK1 hD1 hk1 hz1
      generalize H1 = H at hP hS ⊢
      replace hf := ob_t2 hf
      obtain ⟨ee0, ee1⟩ := hf
      subst ee0
      subst ee1
      exact W.iret hx hb hr (fun t ht hW => ⟨⟨_, (), rfl, rfl, by rw [ht]; exact hP, va_K.moved hW.alike hK, hD⟩, hS.F ht⟩) hS.2.2 dX6_follow_26
    · replace hf := ob_neg c_5 hf
      refine lv_iload_n hx hb dX6_follow_17 rfl (lv_at hl 2 rfl) ?_
      refine lv_if_ge (tgt := 27) hx hb dX6_follow_18 (by decide) (fun c_10 => ?_) (fun c_10 => ?_)
      · replace hf := ob_pos c_10 hf
        refine lv_aload_n hx hb dX6_follow_27 rfl (lv_at hl 0 rfl) ?_
        refine va_get (D := D) (ci := 6) (v := .null) (C := RX6) (T := TX6) (N := 13) hx hb hts iw_wsX6_follow_X6 hown hK hP 0 rfl rfl 12 (by decide) (hts (.fieldLink RX6 245 "BargeBasin" "plan" "LBargeBasin$Plan;") (List.mem_of_getElem? (i := 1) (by decide +kernel))) (fun _ h9 => h9) rfl dX6_follow_28 ?_
        refine lv_ifnonnullN hx hb dX6_follow_31 ?_
        refine lv_aload_n hx hb dX6_follow_34 rfl (lv_at hl 0 rfl) ?_
        refine lv_bipush (v := 11) hx hb dX6_follow_35 (by decide) ?_
        replace hf := ob_b hf
        obtain ⟨⟨zr_11, k_status_12⟩, hc_13, hf⟩ := hf
        replace hf := ob_un2 hf
        have hPc := hP.sub (ws' := [(a_t, .inr (6, [.ref a_lines, .ref a_chart, .ref a_trial, .ref a_log, .ref a_shelves, .ref a_shown, .int k_shownCount, .int k_status, .int k_whyStep, .int k_whyReason, .int k_whyBarge, z_search, .null]))]) [0] rfl
        have hDc := hD.sub (ws' := [(a_t, .inr (6, [.ref a_lines, .ref a_chart, .ref a_trial, .ref a_log, .ref a_shelves, .ref a_shown, .int k_shownCount, .int k_status, .int k_whyStep, .int k_whyReason, .int k_whyBarge, z_search, .null]))]) [0] (by decide) rfl
        have hFc := va_free (wc := [(a_t, .inr (6, [.ref a_lines, .ref a_chart, .ref a_trial, .ref a_log, .ref a_shelves, .ref a_shown, .int k_shownCount, .int k_status, .int k_whyStep, .int k_whyReason, .int k_whyBarge, z_search, .null]))]) hD hS hA [0] rfl
        refine va_calli (va_runV (As := [.int ((11 : Int32))]) (rest := []) ⟨hx, hb, hml, hown, hts⟩ (c_f_BargeBasin_refuse l D cT H.size a_t a_lines a_chart a_trial a_log a_shelves a_shown z_search .null k_shownCount k_status k_whyStep k_whyReason k_whyBarge ((11 : Int32)) _ _ hc_13) (cwV 1 hts gX6_follow_X6_refuse rfl rfl rfl (by decide +kernel) ⟨Nat.le_of_ble_eq_true rfl, Nat.le_of_ble_eq_true rfl⟩) ⟨fun a U g mk q => by obtain ⟨q0, q1, qP, qK, qN, qD⟩ := q; exact ⟨q0, q1, qP, va_K.moved (u := U) (U := U.calling g mk a) (Vm.Alike.refl U.vm) qK, jNw_same (u := U) (U := U.calling g mk a) rfl qN, qD⟩, va_recv hK hP (ci := 6) (q0 := 0) rfl rfl, fun U hU hW => ⟨rfl, by rw [hU], by rw [hU]; exact hPc, va_K.moved hW.alike hK, jNw_warm hW hN, hDc.weaken (fun _ _ _ _ => trivial)⟩⟩ rfl rfl hl.1 rfl (lv_room (Nat.le_of_ble_eq_true rfl)) dX6_follow_37 ⟨Nat.le_of_ble_eq_true rfl, Nat.le_of_ble_eq_true rfl⟩) hS (fun q _ h => hFc q h) hFc (fun r_11 u t H1 locs ht hvm er_14 hB hz1 hk1 hS => ?_)
        subst er_14
        obtain ⟨hP1, hK1, hD1⟩ := hB
        rw [ht] at hP1
        have hPD := va_join (wr := [(a_chart, .inr (0, [.int k_chart_width, .int k_chart_height, .int k_chart_barges, .long k_chart_walls, .long k_chart_taken, .ref a_chart_kind, .ref a_chart_place, .ref a_chart_length, .ref a_chart_gate, .ref a_chart_across, .ref a_chart_wide, .ref a_chart_high, .ref a_chart_shape]))]) (w1 := [(a_t, .inr (6, [.ref a_lines, .ref a_chart, .ref a_trial, .ref a_log, .ref a_shelves, .ref a_shown, .int k_shownCount, .int k_status_12, .int k_whyStep, .int k_whyReason, .int k_whyBarge, z_search, .null]))]) hP hD [0] [1] rfl rfl (by decide) (by decide) hk1 hFc hP1 hD1
        clear hP hD
        obtain ⟨hP, hD⟩ := hPD
        replace hP := hP.sub (ws' := [(a_t, .inr (6, [.ref a_lines, .ref a_chart, .ref a_trial, .ref a_log, .ref a_shelves, .ref a_shown, .int k_shownCount, .int k_status_12, .int k_whyStep, .int k_whyReason, .int k_whyBarge, z_search, .null])), (a_chart, .inr (0, [.int k_chart_width, .int k_chart_height, .int k_chart_barges, .long k_chart_walls, .long k_chart_taken, .ref a_chart_kind, .ref a_chart_place, .ref a_chart_length, .ref a_chart_gate, .ref a_chart_across, .ref a_chart_wide, .ref a_chart_high, .ref a_chart_shape]))]) [1, 0] rfl
        replace hD := hD.sub (ws' := [(a_t, .inr (6, [.ref a_lines, .ref a_chart, .ref a_trial, .ref a_log, .ref a_shelves, .ref a_shown, .int k_shownCount, .int k_status_12, .int k_whyStep, .int k_whyReason, .int k_whyBarge, z_search, .null])), (a_chart, .inr (0, [.int k_chart_width, .int k_chart_height, .int k_chart_barges, .long k_chart_walls, .long k_chart_taken, .ref a_chart_kind, .ref a_chart_place, .ref a_chart_length, .ref a_chart_gate, .ref a_chart_across, .ref a_chart_wide, .ref a_chart_high, .ref a_chart_shape]))]) [1, 0] (by decide) rfl
        clear hPc hDc hFc hP1 hK1 hD1 hk1 hz1
        generalize H1 = H at hP hS ⊢
        replace hf := ob_t2 hf
        obtain ⟨ee0, ee1⟩ := hf
        subst ee0
        subst ee1
        exact W.iret hx hb hr (fun t ht hW => ⟨⟨_, (), rfl, rfl, by rw [ht]; exact hP, va_K.moved hW.alike hK, hD⟩, hS.F ht⟩) hS.2.2 dX6_follow_40
      · replace hf := ob_neg c_10 hf
        refine lv_aload_n hx hb dX6_follow_21 rfl (lv_at hl 0 rfl) ?_
        refine lv_iconst (v := 2) hx hb dX6_follow_22 (by decide) ?_
        replace hf := ob_b hf
        obtain ⟨⟨zr_15, k_status_16⟩, hc_17, hf⟩ := hf
        replace hf := ob_un2 hf
        have hPc := hP.sub (ws' := [(a_t, .inr (6, [.ref a_lines, .ref a_chart, .ref a_trial, .ref a_log, .ref a_shelves, .ref a_shown, .int k_shownCount, .int k_status, .int k_whyStep, .int k_whyReason, .int k_whyBarge, z_search, .null]))]) [0] rfl
        have hDc := hD.sub (ws' := [(a_t, .inr (6, [.ref a_lines, .ref a_chart, .ref a_trial, .ref a_log, .ref a_shelves, .ref a_shown, .int k_shownCount, .int k_status, .int k_whyStep, .int k_whyReason, .int k_whyBarge, z_search, .null]))]) [0] (by decide) rfl
        have hFc := va_free (wc := [(a_t, .inr (6, [.ref a_lines, .ref a_chart, .ref a_trial, .ref a_log, .ref a_shelves, .ref a_shown, .int k_shownCount, .int k_status, .int k_whyStep, .int k_whyReason, .int k_whyBarge, z_search, .null]))]) hD hS hA [0] rfl
        refine va_calli (va_runV (As := [.int ((2 : Int32))]) (rest := []) ⟨hx, hb, hml, hown, hts⟩ (c_f_BargeBasin_refuse l D cT H.size a_t a_lines a_chart a_trial a_log a_shelves a_shown z_search .null k_shownCount k_status k_whyStep k_whyReason k_whyBarge ((2 : Int32)) _ _ hc_17) (cwV 1 hts gX6_follow_X6_refuse rfl rfl rfl (by decide +kernel) ⟨Nat.le_of_ble_eq_true rfl, Nat.le_of_ble_eq_true rfl⟩) ⟨fun a U g mk q => by obtain ⟨q0, q1, qP, qK, qN, qD⟩ := q; exact ⟨q0, q1, qP, va_K.moved (u := U) (U := U.calling g mk a) (Vm.Alike.refl U.vm) qK, jNw_same (u := U) (U := U.calling g mk a) rfl qN, qD⟩, va_recv hK hP (ci := 6) (q0 := 0) rfl rfl, fun U hU hW => ⟨rfl, by rw [hU], by rw [hU]; exact hPc, va_K.moved hW.alike hK, jNw_warm hW hN, hDc.weaken (fun _ _ _ _ => trivial)⟩⟩ rfl rfl hl.1 rfl (lv_room (Nat.le_of_ble_eq_true rfl)) dX6_follow_23 ⟨Nat.le_of_ble_eq_true rfl, Nat.le_of_ble_eq_true rfl⟩) hS (fun q _ h => hFc q h) hFc (fun r_15 u t H1 locs ht hvm er_18 hB hz1 hk1 hS => ?_)
        subst er_18
        obtain ⟨hP1, hK1, hD1⟩ := hB
        rw [ht] at hP1
        have hPD := va_join (wr := [(a_chart, .inr (0, [.int k_chart_width, .int k_chart_height, .int k_chart_barges, .long k_chart_walls, .long k_chart_taken, .ref a_chart_kind, .ref a_chart_place, .ref a_chart_length, .ref a_chart_gate, .ref a_chart_across, .ref a_chart_wide, .ref a_chart_high, .ref a_chart_shape]))]) (w1 := [(a_t, .inr (6, [.ref a_lines, .ref a_chart, .ref a_trial, .ref a_log, .ref a_shelves, .ref a_shown, .int k_shownCount, .int k_status_16, .int k_whyStep, .int k_whyReason, .int k_whyBarge, z_search, .null]))]) hP hD [0] [1] rfl rfl (by decide) (by decide) hk1 hFc hP1 hD1
        clear hP hD
        obtain ⟨hP, hD⟩ := hPD
        replace hP := hP.sub (ws' := [(a_t, .inr (6, [.ref a_lines, .ref a_chart, .ref a_trial, .ref a_log, .ref a_shelves, .ref a_shown, .int k_shownCount, .int k_status_16, .int k_whyStep, .int k_whyReason, .int k_whyBarge, z_search, .null])), (a_chart, .inr (0, [.int k_chart_width, .int k_chart_height, .int k_chart_barges, .long k_chart_walls, .long k_chart_taken, .ref a_chart_kind, .ref a_chart_place, .ref a_chart_length, .ref a_chart_gate, .ref a_chart_across, .ref a_chart_wide, .ref a_chart_high, .ref a_chart_shape]))]) [1, 0] rfl
        replace hD := hD.sub (ws' := [(a_t, .inr (6, [.ref a_lines, .ref a_chart, .ref a_trial, .ref a_log, .ref a_shelves, .ref a_shown, .int k_shownCount, .int k_status_16, .int k_whyStep, .int k_whyReason, .int k_whyBarge, z_search, .null])), (a_chart, .inr (0, [.int k_chart_width, .int k_chart_height, .int k_chart_barges, .long k_chart_walls, .long k_chart_taken, .ref a_chart_kind, .ref a_chart_place, .ref a_chart_length, .ref a_chart_gate, .ref a_chart_across, .ref a_chart_wide, .ref a_chart_high, .ref a_chart_shape]))]) [1, 0] (by decide) rfl
        clear hPc hDc hFc hP1 hK1 hD1 hk1 hz1
        generalize H1 = H at hP hS ⊢
        replace hf := ob_t2 hf
        obtain ⟨ee0, ee1⟩ := hf
        subst ee0
        subst ee1
        exact W.iret hx hb hr (fun t ht hW => ⟨⟨_, (), rfl, rfl, by rw [ht]; exact hP, va_K.moved hW.alike hK, hD⟩, hS.F ht⟩) hS.2.2 dX6_follow_26
  · replace hf := ob_neg c_4 hf
    refine lv_aload_n hx hb dX6_follow_7 rfl (lv_at hl 0 rfl) ?_
    refine lv_iconst (v := 1) hx hb dX6_follow_8 (by decide) ?_
    replace hf := ob_b hf
    obtain ⟨⟨zr_19, k_status_20⟩, hc_21, hf⟩ := hf
    replace hf := ob_un2 hf
    have hPc := hP.sub (ws' := [(a_t, .inr (6, [.ref a_lines, .ref a_chart, .ref a_trial, .ref a_log, .ref a_shelves, .ref a_shown, .int k_shownCount, .int k_status, .int k_whyStep, .int k_whyReason, .int k_whyBarge, z_search, .null]))]) [0] rfl
    have hDc := hD.sub (ws' := [(a_t, .inr (6, [.ref a_lines, .ref a_chart, .ref a_trial, .ref a_log, .ref a_shelves, .ref a_shown, .int k_shownCount, .int k_status, .int k_whyStep, .int k_whyReason, .int k_whyBarge, z_search, .null]))]) [0] (by decide) rfl
    have hFc := va_free (wc := [(a_t, .inr (6, [.ref a_lines, .ref a_chart, .ref a_trial, .ref a_log, .ref a_shelves, .ref a_shown, .int k_shownCount, .int k_status, .int k_whyStep, .int k_whyReason, .int k_whyBarge, z_search, .null]))]) hD hS hA [0] rfl
    refine va_calli (va_runV (As := [.int ((1 : Int32))]) (rest := []) ⟨hx, hb, hml, hown, hts⟩ (c_f_BargeBasin_refuse l D cT H.size a_t a_lines a_chart a_trial a_log a_shelves a_shown z_search .null k_shownCount k_status k_whyStep k_whyReason k_whyBarge ((1 : Int32)) _ _ hc_21) (cwV 1 hts gX6_follow_X6_refuse rfl rfl rfl (by decide +kernel) ⟨Nat.le_of_ble_eq_true rfl, Nat.le_of_ble_eq_true rfl⟩) ⟨fun a U g mk q => by obtain ⟨q0, q1, qP, qK, qN, qD⟩ := q; exact ⟨q0, q1, qP, va_K.moved (u := U) (U := U.calling g mk a) (Vm.Alike.refl U.vm) qK, jNw_same (u := U) (U := U.calling g mk a) rfl qN, qD⟩, va_recv hK hP (ci := 6) (q0 := 0) rfl rfl, fun U hU hW => ⟨rfl, by rw [hU], by rw [hU]; exact hPc, va_K.moved hW.alike hK, jNw_warm hW hN, hDc.weaken (fun _ _ _ _ => trivial)⟩⟩ rfl rfl hl.1 rfl (lv_room (Nat.le_of_ble_eq_true rfl)) dX6_follow_9 ⟨Nat.le_of_ble_eq_true rfl, Nat.le_of_ble_eq_true rfl⟩) hS (fun q _ h => hFc q h) hFc (fun r_19 u t H1 locs ht hvm er_22 hB hz1 hk1 hS => ?_)
    subst er_22
    obtain ⟨hP1, hK1, hD1⟩ := hB
    rw [ht] at hP1
    have hPD := va_join (wr := [(a_chart, .inr (0, [.int k_chart_width, .int k_chart_height, .int k_chart_barges, .long k_chart_walls, .long k_chart_taken, .ref a_chart_kind, .ref a_chart_place, .ref a_chart_length, .ref a_chart_gate, .ref a_chart_across, .ref a_chart_wide, .ref a_chart_high, .ref a_chart_shape]))]) (w1 := [(a_t, .inr (6, [.ref a_lines, .ref a_chart, .ref a_trial, .ref a_log, .ref a_shelves, .ref a_shown, .int k_shownCount, .int k_status_20, .int k_whyStep, .int k_whyReason, .int k_whyBarge, z_search, .null]))]) hP hD [0] [1] rfl rfl (by decide) (by decide) hk1 hFc hP1 hD1
    clear hP hD
    obtain ⟨hP, hD⟩ := hPD
    replace hP := hP.sub (ws' := [(a_t, .inr (6, [.ref a_lines, .ref a_chart, .ref a_trial, .ref a_log, .ref a_shelves, .ref a_shown, .int k_shownCount, .int k_status_20, .int k_whyStep, .int k_whyReason, .int k_whyBarge, z_search, .null])), (a_chart, .inr (0, [.int k_chart_width, .int k_chart_height, .int k_chart_barges, .long k_chart_walls, .long k_chart_taken, .ref a_chart_kind, .ref a_chart_place, .ref a_chart_length, .ref a_chart_gate, .ref a_chart_across, .ref a_chart_wide, .ref a_chart_high, .ref a_chart_shape]))]) [1, 0] rfl
    replace hD := hD.sub (ws' := [(a_t, .inr (6, [.ref a_lines, .ref a_chart, .ref a_trial, .ref a_log, .ref a_shelves, .ref a_shown, .int k_shownCount, .int k_status_20, .int k_whyStep, .int k_whyReason, .int k_whyBarge, z_search, .null])), (a_chart, .inr (0, [.int k_chart_width, .int k_chart_height, .int k_chart_barges, .long k_chart_walls, .long k_chart_taken, .ref a_chart_kind, .ref a_chart_place, .ref a_chart_length, .ref a_chart_gate, .ref a_chart_across, .ref a_chart_wide, .ref a_chart_high, .ref a_chart_shape]))]) [1, 0] (by decide) rfl
    clear hPc hDc hFc hP1 hK1 hD1 hk1 hz1
    generalize H1 = H at hP hS ⊢
    replace hf := ob_t2 hf
    obtain ⟨ee0, ee1⟩ := hf
    subst ee0
    subst ee1
    exact W.iret hx hb hr (fun t ht hW => ⟨⟨_, (), rfl, rfl, by rw [ht]; exact hP, va_K.moved hW.alike hK, hD⟩, hS.F ht⟩) hS.2.2 dX6_follow_12
