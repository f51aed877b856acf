theorem iw_wsX6_planToKeep_X6 : ∀ w ∈ wsX60, w ∈ wsX6_planToKeep := fun _ h => List.mem_cons_of_mem _ (List.mem_append_left _ (List.mem_append_right _ h))
theorem iw_wsX6_planToKeep_X4 : ∀ w ∈ wsX40, w ∈ wsX6_planToKeep := fun _ h => List.mem_cons_of_mem _ (List.mem_append_right _ h)
abbrev rm_BargeBasin_planToKeep_plan01 : Room := { frames := 2, cells := 2, slots := 6002, locals := 32 }
set_option maxHeartbeats 4000000 in
set_option maxRecDepth 100000 in
theorem c_f_BargeBasin_planToKeep_plan01 (l : Launch) (D : va_G) (cT : Nat → ClassId) (sz : Nat) (a_t a_lines a_chart a_trial a_log a_shelves a_shown : Nat) (z_search : Value) (k_shownCount : Int32) (k_status : Int32) (k_whyStep : Int32) (k_whyReason : Int32) (k_whyBarge : Int32) (hf : f_BargeBasin_planToKeep_plan01  = some ()) : Met l yX6_planToKeep wsX6_planToKeep rm_BargeBasin_planToKeep_plan01 (va_Pc [.ref a_t] (fun U => U.heap.size = sz ∧ va_P D vwCl [(a_t, .inr (6, [.ref a_lines, .ref a_chart, .ref a_trial, .ref a_log, .ref a_shelves, .ref a_shown, .int k_shownCount, .int k_status, .int k_whyStep, .int k_whyReason, .int k_whyBarge, z_search, .null]))] U.heap ∧ va_K D vwCl (jT cT) U ∧ jNw U ∧ va_D (fun _ => True) [(a_t, .inr (6, [.ref a_lines, .ref a_chart, .ref a_trial, .ref a_log, .ref a_shelves, .ref a_shown, .int k_shownCount, .int k_status, .int k_whyStep, .int k_whyReason, .int k_whyBarge, z_search, .null]))])) (va_Qr (fun _ : Unit => True) (fun (_ : Unit) ra t => ∃ (a_plan a_plan_moves : Nat), ra = a_plan ∧ va_P D vwCl [(a_t, .inr (6, [.ref a_lines, .ref a_chart, .ref a_trial, .ref a_log, .ref a_shelves, .ref a_shown, .int k_shownCount, .int k_status, .int k_whyStep, .int k_whyReason, .int k_whyBarge, z_search, .ref a_plan])), (a_plan, .inr (4, [.ref a_plan_moves, .int ((0 : Int32))])), (a_plan_moves, .inl (cT 0, 6000, .inl (fun _ => (0 : Int32))))] t.heap ∧ va_K D vwCl (jT cT) t ∧ va_D (va_A [(a_t, .inr (6, [.ref a_lines, .ref a_chart, .ref a_trial, .ref a_log, .ref a_shelves, .ref a_shown, .int k_shownCount, .int k_status, .int k_whyStep, .int k_whyReason, .int k_whyBarge, z_search, .null]))] sz) [(a_t, .inr (6, [.ref a_lines, .ref a_chart, .ref a_trial, .ref a_log, .ref a_shelves, .ref a_shown, .int k_shownCount, .int k_status, .int k_whyStep, .int k_whyReason, .int k_whyBarge, z_search, .ref a_plan])), (a_plan, .inr (4, [.ref a_plan_moves, .int ((0 : Int32))])), (a_plan_moves, .inl (cT 0, 6000, .inl (fun _ => (0 : Int32))))]) (va_A [(a_t, .inr (6, [.ref a_lines, .ref a_chart, .ref a_trial, .ref a_log, .ref a_shelves, .ref a_shown, .int k_shownCount, .int k_status, .int k_whyStep, .int k_whyReason, .int k_whyBarge, z_search, .null]))] sz)) 2 6002 (va_A [(a_t, .inr (6, [.ref a_lines, .ref a_chart, .ref a_trial, .ref a_log, .ref a_shelves, .ref a_shown, .int k_shownCount, .int k_status, .int k_whyStep, .int k_whyReason, .int k_whyBarge, z_search, .null]))] sz) := by
  refine Met.ofW (cc := cX6_planToKeep) (maxL := 1) (ret := (some (.object "BargeBasin$Plan"))) (by decide) rfl ?_
  intro p e s m args below meth c s₁ B hml hv
  obtain ⟨rfl, hsz, hP, hK, hN, hD0⟩ := hv
  have hx := B.exec
  have hb := B.bytes
  have hr := B.returns
  have hts := atoms_spec (ws := wsX6_planToKeep) B.pre
  have hown : s.vm.findClass RX6 = some m.cls := findClass_of_methodNamed B.named
  have hlocks := B.notSynchronized
  subst hsz
  have hD := hD0.self (sz := s.heap.size)
  clear hD0
  generalize hAe : va_A [(a_t, .inr (6, [.ref a_lines, .ref a_chart, .ref a_trial, .ref a_log, .ref a_shelves, .ref a_shown, .int k_shownCount, .int k_status, .int k_whyStep, .int k_whyReason, .int k_whyBarge, z_search, .null]))] s.heap.size = A at hD ⊢
  have hA : ∀ q : Nat, s.heap.size ≤ q → A q := fun q h => by rw [← hAe]; exact Or.inr h
  clear hAe
  have hl := lv_entry ([.ref a_t]) (n := 1) (Nat.le_of_ble_eq_true rfl)
  rw [lg_entry_eq]
  generalize (lg_sl ([.ref a_t]) ++ List.replicate (1 - (lg_sl ([.ref a_t])).length) Slot.unset).toArray = ls at hl ⊢
  have hl : lv_has ls 1 [(0, .ref a_t)] := hl
  refine j_start (A := A) hP (fun H locs hP hS => ?_)
  unfold f_BargeBasin_planToKeep_plan01 at hf
  refine lv_aload_n hx hb dX6_planToKeep_0 rfl (lv_at hl 0 rfl) ?_
  refine va_get (D := D) (ci := 6) (v := .null) (C := RX6) (T := TX6) (N := 13) hx hb hts iw_wsX6_planToKeep_X6 hown hK hP 0 rfl rfl 12 (by decide) (hts (.fieldLink RX6 245 "BargeBasin" "plan" "LBargeBasin$Plan;") (List.mem_of_getElem? (i := 1) (by decide +kernel))) (fun _ h9 => h9) rfl dX6_planToKeep_1 ?_
  refine lv_ifnonnullN hx hb dX6_planToKeep_4 ?_
  refine lv_aload_n hx hb dX6_planToKeep_7 rfl (lv_at hl 0 rfl) ?_
  refine va_new (ci := 4) (fs := [.null, .int 0]) (C := RX4) (T := TX4) (N := 2) hx hb hts iw_wsX6_planToKeep_X4 tyX4 tyX4_ok hown (hts (.classLink RX6 250 RX4) (List.mem_of_getElem? (i := 2) (by decide +kernel))) (hts (.instantiable RX4 2) (List.mem_of_getElem? (i := 3) (by decide +kernel))) (hts (.initialized RX4) (List.mem_of_getElem? (i := 4) (by decide +kernel))) hK hP hD hS hA rfl (fun j hj => by rcases (show j = 0 ∨ j = 1 by omega) with rfl | rfl <;> rfl) (Nat.le_of_ble_eq_true rfl) (Nat.le_of_ble_eq_true rfl) dX6_planToKeep_8 (fun a_n8 H hP hD hS => ?_)
  replace hP : va_P D vwCl [(a_t, .inr (6, [.ref a_lines, .ref a_chart, .ref a_trial, .ref a_log, .ref a_shelves, .ref a_shown, .int k_shownCount, .int k_status, .int k_whyStep, .int k_whyReason, .int k_whyBarge, z_search, .null])), (a_n8, .inr (4, [.null, .int ((0 : Int32))]))] H := hP
  replace hD : va_D A [(a_t, .inr (6, [.ref a_lines, .ref a_chart, .ref a_trial, .ref a_log, .ref a_shelves, .ref a_shown, .int k_shownCount, .int k_status, .int k_whyStep, .int k_whyReason, .int k_whyBarge, z_search, .null])), (a_n8, .inr (4, [.null, .int ((0 : Int32))]))] := hD
  refine W.widen (k := 1) (n := 2) (Nat.le_of_ble_eq_true rfl) (Nat.le_of_ble_eq_true rfl) ?_
  refine lv_dup hx hb dX6_planToKeep_11 rfl ?_
  replace hf := ob_b hf
  obtain ⟨_, hc_1, hf⟩ := hf
  replace hf := ob_un0 hf
  have hPc := hP.sub (ws' := [(a_n8, .inr (4, [.null, .int ((0 : Int32))]))]) [1] rfl
  have hDc := hD.sub (ws' := [(a_n8, .inr (4, [.null, .int ((0 : Int32))]))]) [1] (by decide) rfl
  have hFc := va_free (wc := [(a_n8, .inr (4, [.null, .int ((0 : Int32))]))]) hD hS hA [1] rfl
  refine va_callv (va_runIN (As := []) (rest := [.ref a_n8, .ref a_t]) ⟨hx, hb, hml, hown, hts⟩ (c_f_Plan_init l D cT H.size a_n8 ((0 : Int32)) hc_1) ⟨va_cnB 0 hts gX6_planToKeep_X4_init_n376 rfl rfl rfl (hN.1 (.methodLinkNest RX6 376 yX4_init "BargeBasin") (List.mem_of_getElem? (i := 14) (by decide +kernel))) (hts (.initialized RX4) (List.mem_of_getElem? (i := 4) (by decide +kernel))) (by decide +kernel) ⟨Nat.le_of_ble_eq_true rfl, Nat.le_of_ble_eq_true rfl⟩, rfl, (hts (.instanceMethod yX4_init) (List.mem_of_getElem? (i := 5) (by decide +kernel)))⟩ ⟨fun a U g mk q => by obtain ⟨q0, q1, qP, qK, qN, qD⟩ := q; exact ⟨q0, q1, qP, va_K.moved (u := U) (U := U.calling g mk a) (Vm.Alike.refl U.vm) qK, jNw_same (u := U) (U := U.calling g mk a) rfl qN, qD⟩, fun U hU hW => ⟨rfl, by rw [hU], by rw [hU]; exact hPc, va_K.moved hW.alike hK, jNw_warm hW hN, hDc.weaken (fun _ _ _ _ => trivial)⟩⟩ rfl rfl hl.1 rfl (lv_room (Nat.le_of_ble_eq_true rfl)) dX6_planToKeep_12 ⟨Nat.le_of_ble_eq_true rfl, Nat.le_of_ble_eq_true rfl⟩) hS (fun q _ h => hFc q h) hFc (fun u t H1 locs ht hvm er_3 hB hz1 hk1 hS => ?_)
  obtain ⟨b_n8_moves_2, hP1, hK1, hD1⟩ := hB
  rw [ht] at hP1
  have hPD := va_join (wr := [(a_t, .inr (6, [.ref a_lines, .ref a_chart, .ref a_trial, .ref a_log, .ref a_shelves, .ref a_shown, .int k_shownCount, .int k_status, .int k_whyStep, .int k_whyReason, .int k_whyBarge, z_search, .null]))]) (w1 := [(a_n8, .inr (4, [.ref b_n8_moves_2, .int ((0 : Int32))])), (b_n8_moves_2, .inl (cT 0, 6000, .inl (fun _ => (0 : Int32))))]) hP hD [1] [0] rfl rfl (by decide) (by decide) hk1 hFc hP1 hD1
  clear hP hD
  obtain ⟨hP, hD⟩ := hPD
  replace hP := hP.sub (ws' := [(a_t, .inr (6, [.ref a_lines, .ref a_chart, .ref a_trial, .ref a_log, .ref a_shelves, .ref a_shown, .int k_shownCount, .int k_status, .int k_whyStep, .int k_whyReason, .int k_whyBarge, z_search, .null])), (a_n8, .inr (4, [.ref b_n8_moves_2, .int ((0 : Int32))])), (b_n8_moves_2, .inl (cT 0, 6000, .inl (fun _ => (0 : Int32))))]) [0, 1, 2] rfl
  replace hD := hD.sub (ws' := [(a_t, .inr (6, [.ref a_lines, .ref a_chart, .ref a_trial, .ref a_log, .ref a_shelves, .ref a_shown, .int k_shownCount, .int k_status, .int k_whyStep, .int k_whyReason, .int k_whyBarge, z_search, .null])), (a_n8, .inr (4, [.ref b_n8_moves_2, .int ((0 : Int32))])), (b_n8_moves_2, .inl (cT 0, 6000, .inl (fun _ => (0 : Int32))))]) [0, 1, 2] (by decide) rfl
  clear hPc hDc hFc hP1 hK1 hD1 hk1 hz1
  generalize H1 = H at hP hS ⊢
  refine W.widen (k := 2) (n := 6002) (Nat.le_of_ble_eq_true rfl) (Nat.le_of_ble_eq_true rfl) ?_
  refine va_put (D := D) (ci := 6) (v := .ref a_n8) (ty := (.object "BargeBasin$Plan")) (C := RX6) (T := TX6) (N := 13) hx hb hts iw_wsX6_planToKeep_X6 tyX6 tyX6_ok nmX6 hown hK hP hD hS 0 rfl rfl 12 (by decide) (hts (.fieldLink RX6 245 "BargeBasin" "plan" "LBargeBasin$Plan;") (List.mem_of_getElem? (i := 1) (by decide +kernel))) (fun _ h9 => h9) rfl (by decide +kernel) rfl rfl (Nat.le_of_ble_eq_true rfl) dX6_planToKeep_15 (fun H locs hP hD hS => ?_)
  replace hP : va_P D vwCl [(a_t, .inr (6, [.ref a_lines, .ref a_chart, .ref a_trial, .ref a_log, .ref a_shelves, .ref a_shown, .int k_shownCount, .int k_status, .int k_whyStep, .int k_whyReason, .int k_whyBarge, z_search, .ref a_n8])), (a_n8, .inr (4, [.ref b_n8_moves_2, .int ((0 : Int32))])), (b_n8_moves_2, .inl (cT 0, 6000, .inl (fun _ => (0 : Int32))))] H := hP
  replace hD : va_D A [(a_t, .inr (6, [.ref a_lines, .ref a_chart, .ref a_trial, .ref a_log, .ref a_shelves, .ref a_shown, .int k_shownCount, .int k_status, .int k_whyStep, .int k_whyReason, .int k_whyBarge, z_search, .ref a_n8])), (a_n8, .inr (4, [.ref b_n8_moves_2, .int ((0 : Int32))])), (b_n8_moves_2, .inl (cT 0, 6000, .inl (fun _ => (0 : Int32))))] := hD
  refine lv_aload_n hx hb dX6_planToKeep_18 rfl (lv_at hl 0 rfl) ?_
  refine va_get (D := D) (ci := 6) (v := .ref a_n8) (C := RX6) (T := TX6) (N := 13) hx hb hts iw_wsX6_planToKeep_X6 hown hK hP 0 rfl rfl 12 (by decide) (hts (.fieldLink RX6 245 "BargeBasin" "plan" "LBargeBasin$Plan;") (List.mem_of_getElem? (i := 1) (by decide +kernel))) (fun _ h9 => h9) rfl dX6_planToKeep_19 ?_
  cases hf
  refine W.widen (k := 2) (n := 6002) (Nat.le_of_ble_eq_true rfl) (Nat.le_of_ble_eq_true rfl) ?_
  exact W.aret hx hb hr (Or.inl ⟨_, rfl⟩) (Or.inr ⟨_, rfl⟩) (fun t ht hW => ⟨⟨(), _, rfl, trivial, a_n8, b_n8_moves_2, rfl, by rw [ht]; exact hP, va_K.moved hW.alike hK, hD⟩, hS.F ht⟩) hS.2.2 dX6_planToKeep_22
