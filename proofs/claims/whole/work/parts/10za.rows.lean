theorem iw_wsX6_all_X6 : ∀ w ∈ wsX60, w ∈ wsX6_all := fun _ h => List.mem_cons_of_mem _ (List.mem_append_left _ (List.mem_append_left _ (List.mem_append_right _ h)))
theorem iw_wsX6_all_X0 : ∀ w ∈ wsX00, w ∈ wsX6_all := fun _ h => List.mem_cons_of_mem _ (List.mem_append_left _ (List.mem_append_right _ h))
theorem iw_wsX6_all_X5 : ∀ w ∈ wsX50, w ∈ wsX6_all := fun _ h => List.mem_cons_of_mem _ (List.mem_append_right _ h)
abbrev rm_BargeBasin_all_search00 : Room := { frames := 2, cells := 0, slots := 0, locals := 44 }
set_option maxHeartbeats 4000000 in
set_option maxRecDepth 100000 in
theorem c_f_BargeBasin_all_search00 (l : Launch) (D : va_G) (cT : Nat → ClassId) (sz : Nat) (a_t a_lines a_chart a_trial a_log a_shelves a_shown a_chart_kind a_chart_place a_chart_length a_chart_gate a_chart_across a_chart_wide a_chart_high a_chart_shape : Nat) (z_plan : Value) (k_shownCount : Int32) (k_status : Int32) (k_whyStep : Int32) (k_whyReason : Int32) (k_whyBarge : Int32) (k_chart_width : Int32) (k_chart_height : Int32) (k_chart_barges : Int32) (k_chart_walls : Int64) (k_chart_taken : Int64) (r0 : Int64) (k_status' : Int32) (hf : f_BargeBasin_all_search00 k_status k_chart_width = some (r0, k_status')) : Met l yX6_all wsX6_all rm_BargeBasin_all_search00 (va_Pc [.ref a_t] (fun U => U.heap.size = sz ∧ va_P D vwCl [(a_t, .inr (6, [.ref a_lines, .ref a_chart, .ref a_trial, .ref a_log, .ref a_shelves, .ref a_shown, .int k_shownCount, .int k_status, .int k_whyStep, .int k_whyReason, .int k_whyBarge, .null, z_plan])), (a_chart, .inr (0, [.int k_chart_width, .int k_chart_height, .int k_chart_barges, .long k_chart_walls, .long k_chart_taken, .ref a_chart_kind, .ref a_chart_place, .ref a_chart_length, .ref a_chart_gate, .ref a_chart_across, .ref a_chart_wide, .ref a_chart_high, .ref a_chart_shape]))] U.heap ∧ va_K D vwCl (jT cT) U ∧ jNw U ∧ va_D (fun _ => True) [(a_t, .inr (6, [.ref a_lines, .ref a_chart, .ref a_trial, .ref a_log, .ref a_shelves, .ref a_shown, .int k_shownCount, .int k_status, .int k_whyStep, .int k_whyReason, .int k_whyBarge, .null, z_plan])), (a_chart, .inr (0, [.int k_chart_width, .int k_chart_height, .int k_chart_barges, .long k_chart_walls, .long k_chart_taken, .ref a_chart_kind, .ref a_chart_place, .ref a_chart_length, .ref a_chart_gate, .ref a_chart_across, .ref a_chart_wide, .ref a_chart_high, .ref a_chart_shape]))])) (va_Ql (fun r (_ : Unit) => r = r0) (fun (_ : Unit) t => va_P D vwCl [(a_t, .inr (6, [.ref a_lines, .ref a_chart, .ref a_trial, .ref a_log, .ref a_shelves, .ref a_shown, .int k_shownCount, .int k_status', .int k_whyStep, .int k_whyReason, .int k_whyBarge, .null, z_plan])), (a_chart, .inr (0, [.int k_chart_width, .int k_chart_height, .int k_chart_barges, .long k_chart_walls, .long k_chart_taken, .ref a_chart_kind, .ref a_chart_place, .ref a_chart_length, .ref a_chart_gate, .ref a_chart_across, .ref a_chart_wide, .ref a_chart_high, .ref a_chart_shape]))] t.heap ∧ va_K D vwCl (jT cT) t ∧ va_D (va_A [(a_t, .inr (6, [.ref a_lines, .ref a_chart, .ref a_trial, .ref a_log, .ref a_shelves, .ref a_shown, .int k_shownCount, .int k_status, .int k_whyStep, .int k_whyReason, .int k_whyBarge, .null, z_plan])), (a_chart, .inr (0, [.int k_chart_width, .int k_chart_height, .int k_chart_barges, .long k_chart_walls, .long k_chart_taken, .ref a_chart_kind, .ref a_chart_place, .ref a_chart_length, .ref a_chart_gate, .ref a_chart_across, .ref a_chart_wide, .ref a_chart_high, .ref a_chart_shape]))] sz) [(a_t, .inr (6, [.ref a_lines, .ref a_chart, .ref a_trial, .ref a_log, .ref a_shelves, .ref a_shown, .int k_shownCount, .int k_status', .int k_whyStep, .int k_whyReason, .int k_whyBarge, .null, z_plan])), (a_chart, .inr (0, [.int k_chart_width, .int k_chart_height, .int k_chart_barges, .long k_chart_walls, .long k_chart_taken, .ref a_chart_kind, .ref a_chart_place, .ref a_chart_length, .ref a_chart_gate, .ref a_chart_across, .ref a_chart_wide, .ref a_chart_high, .ref a_chart_shape]))]) (va_A [(a_t, .inr (6, [.ref a_lines, .ref a_chart, .ref a_trial, .ref a_log, .ref a_shelves, .ref a_shown, .int k_shownCount, .int k_status, .int k_whyStep, .int k_whyReason, .int k_whyBarge, .null, z_plan])), (a_chart, .inr (0, [.int k_chart_width, .int k_chart_height, .int k_chart_barges, .long k_chart_walls, .long k_chart_taken, .ref a_chart_kind, .ref a_chart_place, .ref a_chart_length, .ref a_chart_gate, .ref a_chart_across, .ref a_chart_wide, .ref a_chart_high, .ref a_chart_shape]))] sz)) 0 0 (va_A [(a_t, .inr (6, [.ref a_lines, .ref a_chart, .ref a_trial, .ref a_log, .ref a_shelves, .ref a_shown, .int k_shownCount, .int k_status, .int k_whyStep, .int k_whyReason, .int k_whyBarge, .null, z_plan])), (a_chart, .inr (0, [.int k_chart_width, .int k_chart_height, .int k_chart_barges, .long k_chart_walls, .long k_chart_taken, .ref a_chart_kind, .ref a_chart_place, .ref a_chart_length, .ref a_chart_gate, .ref a_chart_across, .ref a_chart_wide, .ref a_chart_high, .ref a_chart_shape]))] sz) := by
  refine Met.ofW (cc := cX6_all) (maxL := 4) (ret := (some .long)) (by decide) rfl ?_
  intro p e s m args below meth c s₁ B hml hv
  obtain ⟨rfl, hsz, hP, hK, hN, hD0⟩ := hv
  have hx := B.exec
  have hb := B.bytes
  have hr := B.returns
  have hts := atoms_spec (ws := wsX6_all) B.pre
  have hown : s.vm.findClass RX6 = some m.cls := findClass_of_methodNamed B.named
  have hlocks := B.notSynchronized
  subst hsz
  have hD := hD0.self (sz := s.heap.size)
  clear hD0
  generalize hAe : va_A [(a_t, .inr (6, [.ref a_lines, .ref a_chart, .ref a_trial, .ref a_log, .ref a_shelves, .ref a_shown, .int k_shownCount, .int k_status, .int k_whyStep, .int k_whyReason, .int k_whyBarge, .null, z_plan])), (a_chart, .inr (0, [.int k_chart_width, .int k_chart_height, .int k_chart_barges, .long k_chart_walls, .long k_chart_taken, .ref a_chart_kind, .ref a_chart_place, .ref a_chart_length, .ref a_chart_gate, .ref a_chart_across, .ref a_chart_wide, .ref a_chart_high, .ref a_chart_shape]))] s.heap.size = A at hD ⊢
  have hA : ∀ q : Nat, s.heap.size ≤ q → A q := fun q h => by rw [← hAe]; exact Or.inr h
  clear hAe
  have hl := lv_entry ([.ref a_t]) (n := 4) (Nat.le_of_ble_eq_true rfl)
  rw [lg_entry_eq]
  generalize (lg_sl ([.ref a_t]) ++ List.replicate (4 - (lg_sl ([.ref a_t])).length) Slot.unset).toArray = ls at hl ⊢
  have hl : lv_has ls 4 [(0, .ref a_t)] := hl
  refine j_start (A := A) hP (fun H locs hP hS => ?_)
  unfold f_BargeBasin_all_search00 at hf
  refine lv_aload_n hx hb dX6_all_0 rfl (lv_at hl 0 rfl) ?_
  refine lv_iconst (v := 0) hx hb dX6_all_1 (by decide) ?_
  refine lv_iconst (v := 0) hx hb dX6_all_2 (by decide) ?_
  replace hf := ob_b hf
  obtain ⟨zr_1, hc_2, hf⟩ := hf
  refine vp_callSi (W.runV (As := [.int ((0 : Int32)), .int ((0 : Int32))]) (rest := []) ⟨hx, hb, hml, hown, hts⟩ (c_f_BargeBasin_faultOfSearch_search00 l D cT a_t a_lines a_chart a_trial a_log a_shelves a_shown a_chart_kind a_chart_place a_chart_length a_chart_gate a_chart_across a_chart_wide a_chart_high a_chart_shape z_plan k_shownCount k_status k_whyStep k_whyReason k_whyBarge k_chart_width k_chart_height k_chart_barges k_chart_walls k_chart_taken ((0 : Int32)) ((0 : Int32)) _ hc_2) (cwV 2 hts gX6_all_X6_faultOfSearch rfl rfl rfl (by decide +kernel) ⟨Nat.le_of_ble_eq_true rfl, Nat.le_of_ble_eq_true rfl⟩) ⟨fun a U g mk q => by obtain ⟨q0, qP, qK, qN⟩ := q; exact ⟨q0, qP, va_K.moved (u := U) (U := U.calling g mk a) (Vm.Alike.refl U.vm) qK, jNw_same (u := U) (U := U.calling g mk a) rfl qN⟩, va_recv hK hP (ci := 6) (q0 := 0) rfl rfl, fun U hU hW => ⟨rfl, by rw [hU]; exact hP.sub [0, 1] rfl, va_K.moved hW.alike hK, jNw_warm hW hN⟩⟩ rfl rfl hl.1 rfl (lv_room (Nat.le_of_ble_eq_true rfl)) dX6_all_3 ⟨Nat.le_of_ble_eq_true rfl, Nat.le_of_ble_eq_true rfl⟩) (fun r_1 er_3 => ?_)
  subst er_3
  refine lv_istore_n (lv' := [(1, .int r_1), (0, .ref a_t)]) hx hb dX6_all_6 rfl hl (by decide) rfl (fun ls hl => ?_)
  refine lv_iload_n hx hb dX6_all_7 rfl (lv_at hl 0 rfl) ?_
  refine lv_if_eq (tgt := 18) hx hb dX6_all_8 (by decide) (fun c_4 => ?_) (fun c_4 => ?_)
  · replace hf := ob_pos c_4 hf
    refine lv_aload_n hx hb dX6_all_18 rfl (lv_at hl 1 rfl) ?_
    exact (ob_none hf).elim
  · replace hf := ob_neg c_4 hf
    refine lv_aload_n hx hb dX6_all_11 rfl (lv_at hl 1 rfl) ?_
    refine lv_iload_n hx hb dX6_all_12 rfl (lv_at hl 0 rfl) ?_
    replace hf := ob_b hf
    obtain ⟨⟨zr_5, k_status_6⟩, hc_7, hf⟩ := hf
    replace hf := ob_un2 hf
    have hPc := hP.sub (ws' := [(a_t, .inr (6, [.ref a_lines, .ref a_chart, .ref a_trial, .ref a_log, .ref a_shelves, .ref a_shown, .int k_shownCount, .int k_status, .int k_whyStep, .int k_whyReason, .int k_whyBarge, .null, z_plan]))]) [0] rfl
    have hDc := hD.sub (ws' := [(a_t, .inr (6, [.ref a_lines, .ref a_chart, .ref a_trial, .ref a_log, .ref a_shelves, .ref a_shown, .int k_shownCount, .int k_status, .int k_whyStep, .int k_whyReason, .int k_whyBarge, .null, z_plan]))]) [0] (by decide) rfl
    have hFc := va_free (wc := [(a_t, .inr (6, [.ref a_lines, .ref a_chart, .ref a_trial, .ref a_log, .ref a_shelves, .ref a_shown, .int k_shownCount, .int k_status, .int k_whyStep, .int k_whyReason, .int k_whyBarge, .null, z_plan]))]) hD hS hA [0] rfl
    refine va_calli (va_runV (As := [.int r_1]) (rest := []) ⟨hx, hb, hml, hown, hts⟩ (c_f_BargeBasin_refuse l D cT H.size a_t a_lines a_chart a_trial a_log a_shelves a_shown .null z_plan k_shownCount k_status k_whyStep k_whyReason k_whyBarge r_1 _ _ hc_7) (cwV 1 hts gX6_all_X6_refuse rfl rfl rfl (by decide +kernel) ⟨Nat.le_of_ble_eq_true rfl, Nat.le_of_ble_eq_true rfl⟩) ⟨fun a U g mk q => by obtain ⟨q0, q1, qP, qK, qN, qD⟩ := q; exact ⟨q0, q1, qP, va_K.moved (u := U) (U := U.calling g mk a) (Vm.Alike.refl U.vm) qK, jNw_same (u := U) (U := U.calling g mk a) rfl qN, qD⟩, va_recv hK hP (ci := 6) (q0 := 0) rfl rfl, fun U hU hW => ⟨rfl, by rw [hU], by rw [hU]; exact hPc, va_K.moved hW.alike hK, jNw_warm hW hN, hDc.weaken (fun _ _ _ _ => trivial)⟩⟩ rfl rfl hl.1 rfl (lv_room (Nat.le_of_ble_eq_true rfl)) dX6_all_13 ⟨Nat.le_of_ble_eq_true rfl, Nat.le_of_ble_eq_true rfl⟩) hS (fun q _ h => hFc q h) hFc (fun r_5 u t H1 locs ht hvm er_8 hB hz1 hk1 hS => ?_)
    subst er_8
    obtain ⟨hP1, hK1, hD1⟩ := hB
    rw [ht] at hP1
    have hPD := va_join (wr := [(a_chart, .inr (0, [.int k_chart_width, .int k_chart_height, .int k_chart_barges, .long k_chart_walls, .long k_chart_taken, .ref a_chart_kind, .ref a_chart_place, .ref a_chart_length, .ref a_chart_gate, .ref a_chart_across, .ref a_chart_wide, .ref a_chart_high, .ref a_chart_shape]))]) (w1 := [(a_t, .inr (6, [.ref a_lines, .ref a_chart, .ref a_trial, .ref a_log, .ref a_shelves, .ref a_shown, .int k_shownCount, .int k_status_6, .int k_whyStep, .int k_whyReason, .int k_whyBarge, .null, z_plan]))]) hP hD [0] [1] rfl rfl (by decide) (by decide) hk1 hFc hP1 hD1
    clear hP hD
    obtain ⟨hP, hD⟩ := hPD
    replace hP := hP.sub (ws' := [(a_t, .inr (6, [.ref a_lines, .ref a_chart, .ref a_trial, .ref a_log, .ref a_shelves, .ref a_shown, .int k_shownCount, .int k_status_6, .int k_whyStep, .int k_whyReason, .int k_whyBarge, .null, z_plan])), (a_chart, .inr (0, [.int k_chart_width, .int k_chart_height, .int k_chart_barges, .long k_chart_walls, .long k_chart_taken, .ref a_chart_kind, .ref a_chart_place, .ref a_chart_length, .ref a_chart_gate, .ref a_chart_across, .ref a_chart_wide, .ref a_chart_high, .ref a_chart_shape]))]) [1, 0] rfl
    replace hD := hD.sub (ws' := [(a_t, .inr (6, [.ref a_lines, .ref a_chart, .ref a_trial, .ref a_log, .ref a_shelves, .ref a_shown, .int k_shownCount, .int k_status_6, .int k_whyStep, .int k_whyReason, .int k_whyBarge, .null, z_plan])), (a_chart, .inr (0, [.int k_chart_width, .int k_chart_height, .int k_chart_barges, .long k_chart_walls, .long k_chart_taken, .ref a_chart_kind, .ref a_chart_place, .ref a_chart_length, .ref a_chart_gate, .ref a_chart_across, .ref a_chart_wide, .ref a_chart_high, .ref a_chart_shape]))]) [1, 0] (by decide) rfl
    clear hPc hDc hFc hP1 hK1 hD1 hk1 hz1
    generalize H1 = H at hP hS ⊢
    refine lv_i2l hx hb dX6_all_16 rfl ?_
    replace hf := ob_t2 hf
    obtain ⟨ee0, ee1⟩ := hf
    subst ee0
    subst ee1
    exact W.lret hx hb hr (fun t ht hW => ⟨⟨_, (), rfl, rfl, by rw [ht]; exact hP, va_K.moved hW.alike hK, hD⟩, hS.F ht⟩) hS.2.2 dX6_all_17
