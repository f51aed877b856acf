abbrev rm_lout0 : Room := { frames := 1, cells := 0, slots := 0, locals := 21 }
abbrev rm_lout1 : Room := { frames := 7, cells := 1, slots := 6, locals := 102 }
set_option maxHeartbeats 4000000 in
set_option maxRecDepth 100000 in
theorem c_lout0 (l : Launch) (D : va_G) (cT : Nat → ClassId) (a_t a_lines a_chart a_trial a_log a_shelves a_shown : Nat) (z_search z_plan : Value) (k_shownCount k_status k_whyStep k_whyReason k_whyBarge : Int32) (sw : Nat → Int32) (v1 : Int32) (sz a_o : Nat) (ov : Nat → Int64) (h0 : ¬ v1 < 0) (h1 : v1 < k_shownCount) (hi : vp_in v1 8) : Met l yL_out wsL_out rm_lout0 (va_Pc [.ref a_t, .int v1, .ref a_o] (fun U => U.heap.size = sz ∧ va_P D vwCl [(a_t, .inr (6, [.ref a_lines, .ref a_chart, .ref a_trial, .ref a_log, .ref a_shelves, .ref a_shown, .int k_shownCount, .int k_status, .int k_whyStep, .int k_whyReason, .int k_whyBarge, z_search, z_plan])), (a_shown, .inl (cT 3, 8, .inl sw)), (a_o, .inl (cT 1, 1, .inr (.inl ov)))] U.heap ∧ va_K D vwCl (jT cT) U ∧ va_D (fun _ => True) [(a_t, .inr (6, [.ref a_lines, .ref a_chart, .ref a_trial, .ref a_log, .ref a_shelves, .ref a_shown, .int k_shownCount, .int k_status, .int k_whyStep, .int k_whyReason, .int k_whyBarge, z_search, z_plan])), (a_shown, .inl (cT 3, 8, .inl sw)), (a_o, .inl (cT 1, 1, .inr (.inl ov)))])) (va_Qi (fun r (_ : Unit) => r = 0) (fun (_ : Unit) t => va_P D vwCl [(a_t, .inr (6, [.ref a_lines, .ref a_chart, .ref a_trial, .ref a_log, .ref a_shelves, .ref a_shown, .int k_shownCount, .int k_status, .int k_whyStep, .int k_whyReason, .int k_whyBarge, z_search, z_plan])), (a_shown, .inl (cT 3, 8, .inl sw)), (a_o, .inl (cT 1, 1, .inr (.inl (vp_updL ov 0 (sw v1.toNatClampNeg).toInt64))))] t.heap ∧ va_K D vwCl (jT cT) t ∧ va_D (va_A [(a_t, .inr (6, [.ref a_lines, .ref a_chart, .ref a_trial, .ref a_log, .ref a_shelves, .ref a_shown, .int k_shownCount, .int k_status, .int k_whyStep, .int k_whyReason, .int k_whyBarge, z_search, z_plan])), (a_shown, .inl (cT 3, 8, .inl sw)), (a_o, .inl (cT 1, 1, .inr (.inl ov)))] sz) [(a_t, .inr (6, [.ref a_lines, .ref a_chart, .ref a_trial, .ref a_log, .ref a_shelves, .ref a_shown, .int k_shownCount, .int k_status, .int k_whyStep, .int k_whyReason, .int k_whyBarge, z_search, z_plan])), (a_shown, .inl (cT 3, 8, .inl sw)), (a_o, .inl (cT 1, 1, .inr (.inl (vp_updL ov 0 (sw v1.toNatClampNeg).toInt64))))]) (va_A [(a_t, .inr (6, [.ref a_lines, .ref a_chart, .ref a_trial, .ref a_log, .ref a_shelves, .ref a_shown, .int k_shownCount, .int k_status, .int k_whyStep, .int k_whyReason, .int k_whyBarge, z_search, z_plan])), (a_shown, .inl (cT 3, 8, .inl sw)), (a_o, .inl (cT 1, 1, .inr (.inl ov)))] sz)) 0 0 (va_A [(a_t, .inr (6, [.ref a_lines, .ref a_chart, .ref a_trial, .ref a_log, .ref a_shelves, .ref a_shown, .int k_shownCount, .int k_status, .int k_whyStep, .int k_whyReason, .int k_whyBarge, z_search, z_plan])), (a_shown, .inl (cT 3, 8, .inl sw)), (a_o, .inl (cT 1, 1, .inr (.inl ov)))] sz) := by
  refine va_MetW (cc := cL_out) (maxL := 4) (ret := (some .int)) (hh := [(0, 9, 12, 13)]) (by decide) rfl ?_
  intro p e s m args below meth c s₁ B hml hv
  obtain ⟨rfl, hsz, hP, hK, hD0⟩ := hv
  have hx := B.exec
  have hb := B.bytes
  have hr := B.returns
  have hts := atoms_spec (ws := wsL_out) B.pre
  have hown : s.vm.findClass RL = some m.cls := findClass_of_methodNamed B.named
  have hlocks := B.notSynchronized
  subst hsz
  have hD := hD0.self (sz := s.heap.size)
  clear hD0
  generalize hAe : va_A [(a_t, .inr (6, [.ref a_lines, .ref a_chart, .ref a_trial, .ref a_log, .ref a_shelves, .ref a_shown, .int k_shownCount, .int k_status, .int k_whyStep, .int k_whyReason, .int k_whyBarge, z_search, z_plan])), (a_shown, .inl (cT 3, 8, .inl sw)), (a_o, .inl (cT 1, 1, .inr (.inl ov)))] s.heap.size = A at hD ⊢
  have hA : ∀ q : Nat, s.heap.size ≤ q → A q := fun q h => by rw [← hAe]; exact Or.inr h
  clear hAe
  have hl := lv_entry ([.ref a_t, .int v1, .ref a_o]) (n := 4) (Nat.le_of_ble_eq_true rfl)
  rw [lg_entry_eq]
  generalize (lg_sl ([.ref a_t, .int v1, .ref a_o]) ++ List.replicate (4 - (lg_sl ([.ref a_t, .int v1, .ref a_o])).length) Slot.unset).toArray = ls at hl ⊢
  have hl : lv_has ls 4 [(0, .ref a_t), (1, .int v1), (2, .ref a_o)] := hl
  refine j_start (A := A) hP (fun H locs hP hS => ?_)
  refine lv_aload_n hx hb dL_out_0 rfl (lv_at hl 2 rfl) ?_
  refine lv_iconst (v := 0) hx hb dL_out_1 (by decide) ?_
  refine lv_aload_n hx hb dL_out_2 rfl (lv_at hl 0 rfl) ?_
  refine lv_iload_n hx hb dL_out_3 rfl (lv_at hl 1 rfl) ?_
  refine vp_callSi (W.runV (As := [.int v1]) (rest := [.int 0, .ref a_o]) ⟨hx, hb, hml, hown, hts⟩ (c_xout l D cT a_t a_lines a_chart a_trial a_log a_shelves a_shown z_search z_plan k_shownCount k_status k_whyStep k_whyReason k_whyBarge sw v1 h0 h1 hi) (cwV 1 hts gL_out_X6_out rfl rfl rfl (by decide +kernel) ⟨Nat.le_of_ble_eq_true rfl, Nat.le_of_ble_eq_true rfl⟩) ⟨fun a U g mk q => by obtain ⟨q0, qP, qK⟩ := q; exact ⟨q0, qP, va_K.moved (u := U) (U := U.calling g mk a) (Vm.Alike.refl U.vm) qK⟩, va_recv hK hP (ci := 6) (q0 := 0) rfl rfl, fun U hU hW => ⟨rfl, by rw [hU]; exact hP.sub [0, 1] rfl, va_K.moved hW.alike hK⟩⟩ rfl rfl hl.1 rfl (lv_room (Nat.le_of_ble_eq_true rfl)) dL_out_4 ⟨Nat.le_of_ble_eq_true rfl, Nat.le_of_ble_eq_true rfl⟩) (fun r er => ?_)
  subst er
  refine lv_i2l hx hb dL_out_7 rfl ?_
  refine va_last hx hb hK hP hD hS 2 1 rfl rfl (show vp_in (0 : Int32) 1 by unfold vp_in; decide) dL_out_8 (fun H locs hP hD hS => ?_)
  replace hP : va_P D vwCl [(a_t, .inr (6, [.ref a_lines, .ref a_chart, .ref a_trial, .ref a_log, .ref a_shelves, .ref a_shown, .int k_shownCount, .int k_status, .int k_whyStep, .int k_whyReason, .int k_whyBarge, z_search, z_plan])), (a_shown, .inl (cT 3, 8, .inl sw)), (a_o, .inl (cT 1, 1, .inr (.inl (vp_updL ov 0 (sw v1.toNatClampNeg).toInt64))))] H := hP
  replace hD : va_D A [(a_t, .inr (6, [.ref a_lines, .ref a_chart, .ref a_trial, .ref a_log, .ref a_shelves, .ref a_shown, .int k_shownCount, .int k_status, .int k_whyStep, .int k_whyReason, .int k_whyBarge, z_search, z_plan])), (a_shown, .inl (cT 3, 8, .inl sw)), (a_o, .inl (cT 1, 1, .inr (.inl (vp_updL ov 0 (sw v1.toNatClampNeg).toInt64))))] := hD
  refine lv_goto (tgt := 15) hx hb dL_out_9 (by decide) ?_
  refine lv_iconst (v := 0) hx hb dL_out_15 (by decide) ?_
  exact W.iret hx hb hr (fun t ht hW => ⟨⟨_, (), rfl, rfl, by rw [ht]; exact hP, va_K.moved hW.alike hK, hD⟩, hS.F ht⟩) hS.2.2 dL_out_16
set_option maxHeartbeats 4000000 in
set_option maxRecDepth 100000 in
theorem c_lout1 (l : Launch) (D : va_G) (cT : Nat → ClassId) (a_t a_lines a_chart a_trial a_log a_shelves a_shown : Nat) (z_search z_plan : Value) (k_shownCount k_status k_whyStep k_whyReason k_whyBarge : Int32) (v1 : Int32) (A : Nat → Prop) (sz a_o : Nat) (hlt : l.stackTraces = false) (h : v1 < 0 ∨ ¬ v1 < k_shownCount) : Met l yL_out wsL_out rm_lout1 (va_Pc [.ref a_t, .int v1, .ref a_o] (fun U => U.heap.size = sz ∧ va_P D vwCl [(a_t, .inr (6, [.ref a_lines, .ref a_chart, .ref a_trial, .ref a_log, .ref a_shelves, .ref a_shown, .int k_shownCount, .int k_status, .int k_whyStep, .int k_whyReason, .int k_whyBarge, z_search, z_plan]))] U.heap ∧ va_K D vwCl (jT cT) U ∧ vx_Zq Bundle.tN "UNASSIGNED_STACK" Bundle.steD A U U.heap ∧ vx_Zq Bundle.tN "SUPPRESSED_SENTINEL" Bundle.listD A U U.heap ∧ jTw U)) (va_Qi (fun r (_ : Unit) => r = 1) (fun (_ : Unit) t => va_P D vwCl [(a_t, .inr (6, [.ref a_lines, .ref a_chart, .ref a_trial, .ref a_log, .ref a_shelves, .ref a_shown, .int k_shownCount, .int k_status, .int k_whyStep, .int k_whyReason, .int k_whyBarge, z_search, z_plan]))] t.heap) (fun q => sz ≤ q)) 1 6 (fun q => sz ≤ q) := by
  refine va_MetW (cc := cL_out) (maxL := 4) (ret := (some .int)) (hh := [(0, 9, 12, 13)]) (by decide) rfl ?_
  intro p e s m args below meth c s₁ B hml hv
  obtain ⟨rfl, hsz, hP, hK, hU, hNN, hTw⟩ := hv
  have hx := B.exec
  have hb := B.bytes
  have hr := B.returns
  have hts := atoms_spec (ws := wsL_out) B.pre
  have hown : s.vm.findClass RL = some m.cls := findClass_of_methodNamed B.named
  have hlocks := B.notSynchronized
  subst hsz
  have htab := vx_table (x := yL_out) B (hts (.codeWith yL_out cL_out 4 (some .int) [(0, 9, 12, 13)]) List.mem_cons_self)
  have hl := lv_entry ([.ref a_t, .int v1, .ref a_o]) (n := 4) (Nat.le_of_ble_eq_true rfl)
  rw [lg_entry_eq]
  generalize (lg_sl ([.ref a_t, .int v1, .ref a_o]) ++ List.replicate (4 - (lg_sl ([.ref a_t, .int v1, .ref a_o])).length) Slot.unset).toArray = ls at hl ⊢
  have hl : lv_has ls 4 [(0, .ref a_t), (1, .int v1), (2, .ref a_o)] := hl
  have hS : va_S (fun q : Nat => s.heap.size ≤ q) s.heap s.heap [] := va_S.rf
  refine lv_aload_n hx hb dL_out_0 rfl (lv_at hl 2 rfl) ?_
  refine lv_iconst (v := 0) hx hb dL_out_1 (by decide) ?_
  refine lv_aload_n hx hb dL_out_2 rfl (lv_at hl 0 rfl) ?_
  refine lv_iload_n hx hb dL_out_3 rfl (lv_at hl 1 rfl) ?_
  refine vx_calli (vx_runV (As := [.int v1]) (rest := [.int 0, .ref a_o]) ⟨hx, hb, hml, hown, hts⟩ (c_xthrow l D cT a_t a_lines a_chart a_trial a_log a_shelves a_shown z_search z_plan k_shownCount k_status k_whyStep k_whyReason k_whyBarge v1 A hlt h) (cwV 1 hts gL_out_X6_out rfl rfl rfl (by decide +kernel) ⟨Nat.le_of_ble_eq_true rfl, Nat.le_of_ble_eq_true rfl⟩) ⟨fun a U g mk q => by obtain ⟨q0, qP, qK, qu, qn, qt⟩ := q; exact ⟨q0, qP, va_K.moved (u := U) (U := U.calling g mk a) (Vm.Alike.refl U.vm) qK, vx_Zq.moved (u := U) (U := U.calling g mk a) (Vm.Alike.refl U.vm) qu, vx_Zq.moved (u := U) (U := U.calling g mk a) (Vm.Alike.refl U.vm) qn, jTw_same (u := U) (U := U.calling g mk a) rfl qt⟩, va_recv hK hP (ci := 6) (q0 := 0) rfl rfl, fun U hU9 hW => ⟨rfl, by rw [hU9]; exact hP, va_K.moved hW.alike hK, by rw [hU9]; exact vx_Zq.moved hW.alike hU, by rw [hU9]; exact vx_Zq.moved hW.alike hNN, jTw_warm hW hTw⟩⟩ rfl rfl hl.1 rfl (lv_room (Nat.le_of_ble_eq_true rfl)) dL_out_4 ⟨Nat.le_of_ble_eq_true rfl, Nat.le_of_ble_eq_true rfl⟩) hS (fun q _ h9 => h9.elim) (fun q h9 => h9.elim) (fun q _ h9 => h9.elim) (fun E ce q9 u t H1 locs1 ht hvm _ hE hz hk hS hcell hv hcl => ?_) (fun r u t H1 locs1 ht hvm hno => hno.elim)
  subst hE
  refine vx_catch (own := RL) (name := "java/util/NoSuchElementException") hown [] ⟨0, 9, 12, 13⟩ [] (by rw [htab]; rfl) (fun z hz => by cases hz) (by decide) (by decide) (hts (.classLink RL 13 "java/util/NoSuchElementException") (List.mem_of_getElem? (i := 1) (by decide +kernel))) (va_Nw.use rfl (hTw (.castable "java/util/NoSuchElementException" "java/util/NoSuchElementException") (by decide +kernel))) hcell hv hcl ?_
  refine lv_astore_n (lv' := [(3, .ref q9), (0, .ref a_t), (1, .int v1), (2, .ref a_o)]) hx hb dL_out_12 rfl hl (by decide) rfl (fun ls hl => ?_)
  refine lv_iconst (v := 1) hx hb dL_out_13 (by decide) ?_
  exact W.iret hx hb hr (fun t ht hW => ⟨⟨_, (), rfl, rfl, (by have h9 : va_P D vwCl _ H1 := jl_keep hP (fun q hq => hk q hq (fun h9 => h9)); rw [← ht] at h9; exact h9)⟩, hS.F ht⟩) hS.2.2 dL_out_14
