theorem iw_wsX0_init_X0 : ∀ w ∈ wsX00, w ∈ wsX0_init := fun _ h => List.mem_cons_of_mem _ (List.mem_append_right _ h)
abbrev rm_Chart_init : Room := { frames := 1, cells := 8, slots := 96, locals := 12 }
set_option maxHeartbeats 4000000 in
set_option maxRecDepth 100000 in
theorem c_f_Chart_init (l : Launch) (D : va_G) (cT : Nat → ClassId) (sz : Nat) (a_t : Nat) (k_width : Int32) (k_height : Int32) (k_barges : Int32) (k_walls : Int64) (k_taken : Int64) (hf : f_Chart_init  = some ()) : Met l yX0_init wsX0_init rm_Chart_init (va_Pc [.ref a_t] (fun U => U.heap.size = sz ∧ va_P D vwCl [(a_t, .inr (0, [.int k_width, .int k_height, .int k_barges, .long k_walls, .long k_taken, .null, .null, .null, .null, .null, .null, .null, .null]))] U.heap ∧ va_K D vwCl (jT cT) U ∧ jNw U ∧ va_D (fun _ => True) [(a_t, .inr (0, [.int k_width, .int k_height, .int k_barges, .long k_walls, .long k_taken, .null, .null, .null, .null, .null, .null, .null, .null]))])) (va_Qv (fun _ : Unit => True) (fun (_ : Unit) t => ∃ (a_kind a_place a_length a_gate a_across a_wide a_high a_shape : Nat), va_P D vwCl [(a_t, .inr (0, [.int k_width, .int k_height, .int k_barges, .long k_walls, .long k_taken, .ref a_kind, .ref a_place, .ref a_length, .ref a_gate, .ref a_across, .ref a_wide, .ref a_high, .ref a_shape])), (a_kind, .inl (cT 0, 12, .inl (fun _ => (0 : Int32)))), (a_place, .inl (cT 0, 12, .inl (fun _ => (0 : Int32)))), (a_length, .inl (cT 0, 12, .inl (fun _ => (0 : Int32)))), (a_gate, .inl (cT 0, 12, .inl (fun _ => (0 : Int32)))), (a_across, .inl (cT 2, 12, .inl (fun _ => (0 : Int32)))), (a_wide, .inl (cT 0, 12, .inl (fun _ => (0 : Int32)))), (a_high, .inl (cT 0, 12, .inl (fun _ => (0 : Int32)))), (a_shape, .inl (cT 1, 12, .inr (.inl (fun _ => (0 : Int64)))))] t.heap ∧ va_K D vwCl (jT cT) t ∧ va_D (va_A [(a_t, .inr (0, [.int k_width, .int k_height, .int k_barges, .long k_walls, .long k_taken, .null, .null, .null, .null, .null, .null, .null, .null]))] sz) [(a_t, .inr (0, [.int k_width, .int k_height, .int k_barges, .long k_walls, .long k_taken, .ref a_kind, .ref a_place, .ref a_length, .ref a_gate, .ref a_across, .ref a_wide, .ref a_high, .ref a_shape])), (a_kind, .inl (cT 0, 12, .inl (fun _ => (0 : Int32)))), (a_place, .inl (cT 0, 12, .inl (fun _ => (0 : Int32)))), (a_length, .inl (cT 0, 12, .inl (fun _ => (0 : Int32)))), (a_gate, .inl (cT 0, 12, .inl (fun _ => (0 : Int32)))), (a_across, .inl (cT 2, 12, .inl (fun _ => (0 : Int32)))), (a_wide, .inl (cT 0, 12, .inl (fun _ => (0 : Int32)))), (a_high, .inl (cT 0, 12, .inl (fun _ => (0 : Int32)))), (a_shape, .inl (cT 1, 12, .inr (.inl (fun _ => (0 : Int64)))))]) (va_A [(a_t, .inr (0, [.int k_width, .int k_height, .int k_barges, .long k_walls, .long k_taken, .null, .null, .null, .null, .null, .null, .null, .null]))] sz)) 8 96 (va_A [(a_t, .inr (0, [.int k_width, .int k_height, .int k_barges, .long k_walls, .long k_taken, .null, .null, .null, .null, .null, .null, .null, .null]))] sz) := by
  refine Met.ofW (cc := cX0_init) (maxL := 1) (ret := none) (by decide) rfl ?_
  intro p e s m args below meth c s₁ B hml hv
  obtain ⟨rfl, hsz, hP, hK, hN, hD0⟩ := hv
  have hx := B.exec
  have hb := B.bytes
  have hr := B.returns
  have hts := atoms_spec (ws := wsX0_init) B.pre
  have hown : s.vm.findClass RX0 = some m.cls := findClass_of_methodNamed B.named
  have hlocks := B.notSynchronized
  have hin : meth.name = "<init>" := (name_of_methodNamed B.named B.method).1
  subst hsz
  have hD := hD0.self (sz := s.heap.size)
  clear hD0
  generalize hAe : va_A [(a_t, .inr (0, [.int k_width, .int k_height, .int k_barges, .long k_walls, .long k_taken, .null, .null, .null, .null, .null, .null, .null, .null]))] s.heap.size = A at hD ⊢
  have hA : ∀ q : Nat, s.heap.size ≤ q → A q := fun q h => by rw [← hAe]; exact Or.inr h
  clear hAe
  have hl := lv_entry ([.ref a_t]) (n := 1) (Nat.le_of_ble_eq_true rfl)
  rw [lg_entry_eq]
  generalize (lg_sl ([.ref a_t]) ++ List.replicate (1 - (lg_sl ([.ref a_t])).length) Slot.unset).toArray = ls at hl ⊢
  have hl : lv_has ls 1 [(0, .ref a_t)] := hl
  refine j_start (A := A) hP (fun H locs hP hS => ?_)
  unfold f_Chart_init at hf
  refine lv_aload_n hx hb dX0_init_0 rfl (lv_at hl 0 rfl) ?_
  refine W.objInit hx hb hown (hts (.methodLink RX0 3 objectInit) (List.mem_of_getElem? (i := 1) (by decide +kernel))) (hts (.instanceMethod objectInit) (List.mem_of_getElem? (i := 2) (by decide +kernel))) (hts _ (by decide +kernel)) rfl (by rw [hml]; exact hl.1) rfl dX0_init_1 (Nat.le_of_ble_eq_true rfl) (Nat.le_of_ble_eq_true rfl) ?_
  refine W.eq (g2 := F0 m 4 ls []) rfl ?_
  refine lv_aload_n hx hb dX0_init_4 rfl (lv_at hl 0 rfl) ?_
  refine lv_bipush (v := 12) hx hb dX0_init_5 (by decide) ?_
  refine jnewa (atype := .int) (t0 := 0) (ty := .int) (N2 := 12) (a0 := (12, .inl (fun _ => 0))) hx hb (hts (.arrayClass .int) (List.mem_of_getElem? (i := 4) (by decide +kernel))) rfl hK hP hD hS hA rfl (fun _ => rfl) (by decide) (by decide) (by decide) (Nat.le_of_ble_eq_true rfl) (Nat.le_of_ble_eq_true rfl) dX0_init_7 (fun a_n7 H hP hD hS => ?_)
  replace hP : va_P D vwCl [(a_t, .inr (0, [.int k_width, .int k_height, .int k_barges, .long k_walls, .long k_taken, .null, .null, .null, .null, .null, .null, .null, .null])), (a_n7, .inl (cT 0, 12, .inl (fun _ => (0 : Int32))))] H := hP
  replace hD : va_D A [(a_t, .inr (0, [.int k_width, .int k_height, .int k_barges, .long k_walls, .long k_taken, .null, .null, .null, .null, .null, .null, .null, .null])), (a_n7, .inl (cT 0, 12, .inl (fun _ => (0 : Int32))))] := hD
  refine W.widen (k := 1) (n := 12) (Nat.le_of_ble_eq_true rfl) (Nat.le_of_ble_eq_true rfl) ?_
  refine va_putF (D := D) (ci := 0) (v := .ref a_n7) (ty := (.array .int)) (C := RX0) (T := TX0) (N := 13) hx hb hts iw_wsX0_init_X0 tyX0 tyX0_ok nmX0 hown hK hP hD hS 0 rfl rfl 5 (by decide) (hts (.fieldLink RX0 9 "BargeBasin$Chart" "kind" "[I") (List.mem_of_getElem? (i := 5) (by decide +kernel))) (fun _ h9 => h9) rfl hin rfl (by decide +kernel) rfl rfl (Nat.le_of_ble_eq_true rfl) dX0_init_9 (fun H locs hP hD hS => ?_)
  replace hP : va_P D vwCl [(a_t, .inr (0, [.int k_width, .int k_height, .int k_barges, .long k_walls, .long k_taken, .ref a_n7, .null, .null, .null, .null, .null, .null, .null])), (a_n7, .inl (cT 0, 12, .inl (fun _ => (0 : Int32))))] H := hP
  replace hD : va_D A [(a_t, .inr (0, [.int k_width, .int k_height, .int k_barges, .long k_walls, .long k_taken, .ref a_n7, .null, .null, .null, .null, .null, .null, .null])), (a_n7, .inl (cT 0, 12, .inl (fun _ => (0 : Int32))))] := hD
  refine lv_aload_n hx hb dX0_init_12 rfl (lv_at hl 0 rfl) ?_
  refine lv_bipush (v := 12) hx hb dX0_init_13 (by decide) ?_
  refine jnewa (atype := .int) (t0 := 0) (ty := .int) (N2 := 12) (a0 := (12, .inl (fun _ => 0))) hx hb (hts (.arrayClass .int) (List.mem_of_getElem? (i := 4) (by decide +kernel))) rfl hK hP hD hS hA rfl (fun _ => rfl) (by decide) (by decide) (by decide) (Nat.le_of_ble_eq_true rfl) (Nat.le_of_ble_eq_true rfl) dX0_init_15 (fun a_n15 H hP hD hS => ?_)
  replace hP : va_P D vwCl [(a_t, .inr (0, [.int k_width, .int k_height, .int k_barges, .long k_walls, .long k_taken, .ref a_n7, .null, .null, .null, .null, .null, .null, .null])), (a_n7, .inl (cT 0, 12, .inl (fun _ => (0 : Int32)))), (a_n15, .inl (cT 0, 12, .inl (fun _ => (0 : Int32))))] H := hP
  replace hD : va_D A [(a_t, .inr (0, [.int k_width, .int k_height, .int k_barges, .long k_walls, .long k_taken, .ref a_n7, .null, .null, .null, .null, .null, .null, .null])), (a_n7, .inl (cT 0, 12, .inl (fun _ => (0 : Int32)))), (a_n15, .inl (cT 0, 12, .inl (fun _ => (0 : Int32))))] := hD
  refine W.widen (k := 2) (n := 24) (Nat.le_of_ble_eq_true rfl) (Nat.le_of_ble_eq_true rfl) ?_
  refine va_putF (D := D) (ci := 0) (v := .ref a_n15) (ty := (.array .int)) (C := RX0) (T := TX0) (N := 13) hx hb hts iw_wsX0_init_X0 tyX0 tyX0_ok nmX0 hown hK hP hD hS 0 rfl rfl 6 (by decide) (hts (.fieldLink RX0 15 "BargeBasin$Chart" "place" "[I") (List.mem_of_getElem? (i := 6) (by decide +kernel))) (fun _ h9 => h9) rfl hin rfl (by decide +kernel) rfl rfl (Nat.le_of_ble_eq_true rfl) dX0_init_17 (fun H locs hP hD hS => ?_)
  replace hP : va_P D vwCl [(a_t, .inr (0, [.int k_width, .int k_height, .int k_barges, .long k_walls, .long k_taken, .ref a_n7, .ref a_n15, .null, .null, .null, .null, .null, .null])), (a_n7, .inl (cT 0, 12, .inl (fun _ => (0 : Int32)))), (a_n15, .inl (cT 0, 12, .inl (fun _ => (0 : Int32))))] H := hP
  replace hD : va_D A [(a_t, .inr (0, [.int k_width, .int k_height, .int k_barges, .long k_walls, .long k_taken, .ref a_n7, .ref a_n15, .null, .null, .null, .null, .null, .null])), (a_n7, .inl (cT 0, 12, .inl (fun _ => (0 : Int32)))), (a_n15, .inl (cT 0, 12, .inl (fun _ => (0 : Int32))))] := hD
  refine lv_aload_n hx hb dX0_init_20 rfl (lv_at hl 0 rfl) ?_
  refine lv_bipush (v := 12) hx hb dX0_init_21 (by decide) ?_
  refine jnewa (atype := .int) (t0 := 0) (ty := .int) (N2 := 12) (a0 := (12, .inl (fun _ => 0))) hx hb (hts (.arrayClass .int) (List.mem_of_getElem? (i := 4) (by decide +kernel))) rfl hK hP hD hS hA rfl (fun _ => rfl) (by decide) (by decide) (by decide) (Nat.le_of_ble_eq_true rfl) (Nat.le_of_ble_eq_true rfl) dX0_init_23 (fun a_n23 H hP hD hS => ?_)
  replace hP : va_P D vwCl [(a_t, .inr (0, [.int k_width, .int k_height, .int k_barges, .long k_walls, .long k_taken, .ref a_n7, .ref a_n15, .null, .null, .null, .null, .null, .null])), (a_n7, .inl (cT 0, 12, .inl (fun _ => (0 : Int32)))), (a_n15, .inl (cT 0, 12, .inl (fun _ => (0 : Int32)))), (a_n23, .inl (cT 0, 12, .inl (fun _ => (0 : Int32))))] H := hP
  replace hD : va_D A [(a_t, .inr (0, [.int k_width, .int k_height, .int k_barges, .long k_walls, .long k_taken, .ref a_n7, .ref a_n15, .null, .null, .null, .null, .null, .null])), (a_n7, .inl (cT 0, 12, .inl (fun _ => (0 : Int32)))), (a_n15, .inl (cT 0, 12, .inl (fun _ => (0 : Int32)))), (a_n23, .inl (cT 0, 12, .inl (fun _ => (0 : Int32))))] := hD
  refine W.widen (k := 3) (n := 36) (Nat.le_of_ble_eq_true rfl) (Nat.le_of_ble_eq_true rfl) ?_
  refine va_putF (D := D) (ci := 0) (v := .ref a_n23) (ty := (.array .int)) (C := RX0) (T := TX0) (N := 13) hx hb hts iw_wsX0_init_X0 tyX0 tyX0_ok nmX0 hown hK hP hD hS 0 rfl rfl 7 (by decide) (hts (.fieldLink RX0 18 "BargeBasin$Chart" "length" "[I") (List.mem_of_getElem? (i := 7) (by decide +kernel))) (fun _ h9 => h9) rfl hin rfl (by decide +kernel) rfl rfl (Nat.le_of_ble_eq_true rfl) dX0_init_25 (fun H locs hP hD hS => ?_)
  replace hP : va_P D vwCl [(a_t, .inr (0, [.int k_width, .int k_height, .int k_barges, .long k_walls, .long k_taken, .ref a_n7, .ref a_n15, .ref a_n23, .null, .null, .null, .null, .null])), (a_n7, .inl (cT 0, 12, .inl (fun _ => (0 : Int32)))), (a_n15, .inl (cT 0, 12, .inl (fun _ => (0 : Int32)))), (a_n23, .inl (cT 0, 12, .inl (fun _ => (0 : Int32))))] H := hP
  replace hD : va_D A [(a_t, .inr (0, [.int k_width, .int k_height, .int k_barges, .long k_walls, .long k_taken, .ref a_n7, .ref a_n15, .ref a_n23, .null, .null, .null, .null, .null])), (a_n7, .inl (cT 0, 12, .inl (fun _ => (0 : Int32)))), (a_n15, .inl (cT 0, 12, .inl (fun _ => (0 : Int32)))), (a_n23, .inl (cT 0, 12, .inl (fun _ => (0 : Int32))))] := hD
  refine lv_aload_n hx hb dX0_init_28 rfl (lv_at hl 0 rfl) ?_
  refine lv_bipush (v := 12) hx hb dX0_init_29 (by decide) ?_
  refine jnewa (atype := .int) (t0 := 0) (ty := .int) (N2 := 12) (a0 := (12, .inl (fun _ => 0))) hx hb (hts (.arrayClass .int) (List.mem_of_getElem? (i := 4) (by decide +kernel))) rfl hK hP hD hS hA rfl (fun _ => rfl) (by decide) (by decide) (by decide) (Nat.le_of_ble_eq_true rfl) (Nat.le_of_ble_eq_true rfl) dX0_init_31 (fun a_n31 H hP hD hS => ?_)
  replace hP : va_P D vwCl [(a_t, .inr (0, [.int k_width, .int k_height, .int k_barges, .long k_walls, .long k_taken, .ref a_n7, .ref a_n15, .ref a_n23, .null, .null, .null, .null, .null])), (a_n7, .inl (cT 0, 12, .inl (fun _ => (0 : Int32)))), (a_n15, .inl (cT 0, 12, .inl (fun _ => (0 : Int32)))), (a_n23, .inl (cT 0, 12, .inl (fun _ => (0 : Int32)))), (a_n31, .inl (cT 0, 12, .inl (fun _ => (0 : Int32))))] H := hP
  replace hD : va_D A [(a_t, .inr (0, [.int k_width, .int k_height, .int k_barges, .long k_walls, .long k_taken, .ref a_n7, .ref a_n15, .ref a_n23, .null, .null, .null, .null, .null])), (a_n7, .inl (cT 0, 12, .inl (fun _ => (0 : Int32)))), (a_n15, .inl (cT 0, 12, .inl (fun _ => (0 : Int32)))), (a_n23, .inl (cT 0, 12, .inl (fun _ => (0 : Int32)))), (a_n31, .inl (cT 0, 12, .inl (fun _ => (0 : Int32))))] := hD
  refine W.widen (k := 4) (n := 48) (Nat.le_of_ble_eq_true rfl) (Nat.le_of_ble_eq_true rfl) ?_
  refine va_putF (D := D) (ci := 0) (v := .ref a_n31) (ty := (.array .int)) (C := RX0) (T := TX0) (N := 13) hx hb hts iw_wsX0_init_X0 tyX0 tyX0_ok nmX0 hown hK hP hD hS 0 rfl rfl 8 (by decide) (hts (.fieldLink RX0 21 "BargeBasin$Chart" "gate" "[I") (List.mem_of_getElem? (i := 8) (by decide +kernel))) (fun _ h9 => h9) rfl hin rfl (by decide +kernel) rfl rfl (Nat.le_of_ble_eq_true rfl) dX0_init_33 (fun H locs hP hD hS => ?_)
  replace hP : va_P D vwCl [(a_t, .inr (0, [.int k_width, .int k_height, .int k_barges, .long k_walls, .long k_taken, .ref a_n7, .ref a_n15, .ref a_n23, .ref a_n31, .null, .null, .null, .null])), (a_n7, .inl (cT 0, 12, .inl (fun _ => (0 : Int32)))), (a_n15, .inl (cT 0, 12, .inl (fun _ => (0 : Int32)))), (a_n23, .inl (cT 0, 12, .inl (fun _ => (0 : Int32)))), (a_n31, .inl (cT 0, 12, .inl (fun _ => (0 : Int32))))] H := hP
  replace hD : va_D A [(a_t, .inr (0, [.int k_width, .int k_height, .int k_barges, .long k_walls, .long k_taken, .ref a_n7, .ref a_n15, .ref a_n23, .ref a_n31, .null, .null, .null, .null])), (a_n7, .inl (cT 0, 12, .inl (fun _ => (0 : Int32)))), (a_n15, .inl (cT 0, 12, .inl (fun _ => (0 : Int32)))), (a_n23, .inl (cT 0, 12, .inl (fun _ => (0 : Int32)))), (a_n31, .inl (cT 0, 12, .inl (fun _ => (0 : Int32))))] := hD
  refine lv_aload_n hx hb dX0_init_36 rfl (lv_at hl 0 rfl) ?_
  refine lv_bipush (v := 12) hx hb dX0_init_37 (by decide) ?_
  refine jnewa (atype := .boolean) (t0 := 2) (ty := .boolean) (N2 := 12) (a0 := (12, .inl (fun _ => 0))) hx hb (hts (.arrayClass .boolean) (List.mem_of_getElem? (i := 9) (by decide +kernel))) rfl hK hP hD hS hA rfl (fun _ => rfl) (by decide) (by decide) (by decide) (Nat.le_of_ble_eq_true rfl) (Nat.le_of_ble_eq_true rfl) dX0_init_39 (fun a_n39 H hP hD hS => ?_)
  replace hP : va_P D vwCl [(a_t, .inr (0, [.int k_width, .int k_height, .int k_barges, .long k_walls, .long k_taken, .ref a_n7, .ref a_n15, .ref a_n23, .ref a_n31, .null, .null, .null, .null])), (a_n7, .inl (cT 0, 12, .inl (fun _ => (0 : Int32)))), (a_n15, .inl (cT 0, 12, .inl (fun _ => (0 : Int32)))), (a_n23, .inl (cT 0, 12, .inl (fun _ => (0 : Int32)))), (a_n31, .inl (cT 0, 12, .inl (fun _ => (0 : Int32)))), (a_n39, .inl (cT 2, 12, .inl (fun _ => (0 : Int32))))] H := hP
  replace hD : va_D A [(a_t, .inr (0, [.int k_width, .int k_height, .int k_barges, .long k_walls, .long k_taken, .ref a_n7, .ref a_n15, .ref a_n23, .ref a_n31, .null, .null, .null, .null])), (a_n7, .inl (cT 0, 12, .inl (fun _ => (0 : Int32)))), (a_n15, .inl (cT 0, 12, .inl (fun _ => (0 : Int32)))), (a_n23, .inl (cT 0, 12, .inl (fun _ => (0 : Int32)))), (a_n31, .inl (cT 0, 12, .inl (fun _ => (0 : Int32)))), (a_n39, .inl (cT 2, 12, .inl (fun _ => (0 : Int32))))] := hD
  refine W.widen (k := 5) (n := 60) (Nat.le_of_ble_eq_true rfl) (Nat.le_of_ble_eq_true rfl) ?_
  refine va_putF (D := D) (ci := 0) (v := .ref a_n39) (ty := (.array .boolean)) (C := RX0) (T := TX0) (N := 13) hx hb hts iw_wsX0_init_X0 tyX0 tyX0_ok nmX0 hown hK hP hD hS 0 rfl rfl 9 (by decide) (hts (.fieldLink RX0 24 "BargeBasin$Chart" "across" "[Z") (List.mem_of_getElem? (i := 10) (by decide +kernel))) (fun _ h9 => h9) rfl hin rfl (by decide +kernel) rfl rfl (Nat.le_of_ble_eq_true rfl) dX0_init_41 (fun H locs hP hD hS => ?_)
  replace hP : va_P D vwCl [(a_t, .inr (0, [.int k_width, .int k_height, .int k_barges, .long k_walls, .long k_taken, .ref a_n7, .ref a_n15, .ref a_n23, .ref a_n31, .ref a_n39, .null, .null, .null])), (a_n7, .inl (cT 0, 12, .inl (fun _ => (0 : Int32)))), (a_n15, .inl (cT 0, 12, .inl (fun _ => (0 : Int32)))), (a_n23, .inl (cT 0, 12, .inl (fun _ => (0 : Int32)))), (a_n31, .inl (cT 0, 12, .inl (fun _ => (0 : Int32)))), (a_n39, .inl (cT 2, 12, .inl (fun _ => (0 : Int32))))] H := hP
  replace hD : va_D A [(a_t, .inr (0, [.int k_width, .int k_height, .int k_barges, .long k_walls, .long k_taken, .ref a_n7, .ref a_n15, .ref a_n23, .ref a_n31, .ref a_n39, .null, .null, .null])), (a_n7, .inl (cT 0, 12, .inl (fun _ => (0 : Int32)))), (a_n15, .inl (cT 0, 12, .inl (fun _ => (0 : Int32)))), (a_n23, .inl (cT 0, 12, .inl (fun _ => (0 : Int32)))), (a_n31, .inl (cT 0, 12, .inl (fun _ => (0 : Int32)))), (a_n39, .inl (cT 2, 12, .inl (fun _ => (0 : Int32))))] := hD
  refine lv_aload_n hx hb dX0_init_44 rfl (lv_at hl 0 rfl) ?_
  refine lv_bipush (v := 12) hx hb dX0_init_45 (by decide) ?_
  refine jnewa (atype := .int) (t0 := 0) (ty := .int) (N2 := 12) (a0 := (12, .inl (fun _ => 0))) hx hb (hts (.arrayClass .int) (List.mem_of_getElem? (i := 4) (by decide +kernel))) rfl hK hP hD hS hA rfl (fun _ => rfl) (by decide) (by decide) (by decide) (Nat.le_of_ble_eq_true rfl) (Nat.le_of_ble_eq_true rfl) dX0_init_47 (fun a_n47 H hP hD hS => ?_)
  replace hP : va_P D vwCl [(a_t, .inr (0, [.int k_width, .int k_height, .int k_barges, .long k_walls, .long k_taken, .ref a_n7, .ref a_n15, .ref a_n23, .ref a_n31, .ref a_n39, .null, .null, .null])), (a_n7, .inl (cT 0, 12, .inl (fun _ => (0 : Int32)))), (a_n15, .inl (cT 0, 12, .inl (fun _ => (0 : Int32)))), (a_n23, .inl (cT 0, 12, .inl (fun _ => (0 : Int32)))), (a_n31, .inl (cT 0, 12, .inl (fun _ => (0 : Int32)))), (a_n39, .inl (cT 2, 12, .inl (fun _ => (0 : Int32)))), (a_n47, .inl (cT 0, 12, .inl (fun _ => (0 : Int32))))] H := hP
  replace hD : va_D A [(a_t, .inr (0, [.int k_width, .int k_height, .int k_barges, .long k_walls, .long k_taken, .ref a_n7, .ref a_n15, .ref a_n23, .ref a_n31, .ref a_n39, .null, .null, .null])), (a_n7, .inl (cT 0, 12, .inl (fun _ => (0 : Int32)))), (a_n15, .inl (cT 0, 12, .inl (fun _ => (0 : Int32)))), (a_n23, .inl (cT 0, 12, .inl (fun _ => (0 : Int32)))), (a_n31, .inl (cT 0, 12, .inl (fun _ => (0 : Int32)))), (a_n39, .inl (cT 2, 12, .inl (fun _ => (0 : Int32)))), (a_n47, .inl (cT 0, 12, .inl (fun _ => (0 : Int32))))] := hD
  refine W.widen (k := 6) (n := 72) (Nat.le_of_ble_eq_true rfl) (Nat.le_of_ble_eq_true rfl) ?_
  refine va_putF (D := D) (ci := 0) (v := .ref a_n47) (ty := (.array .int)) (C := RX0) (T := TX0) (N := 13) hx hb hts iw_wsX0_init_X0 tyX0 tyX0_ok nmX0 hown hK hP hD hS 0 rfl rfl 10 (by decide) (hts (.fieldLink RX0 28 "BargeBasin$Chart" "wide" "[I") (List.mem_of_getElem? (i := 11) (by decide +kernel))) (fun _ h9 => h9) rfl hin rfl (by decide +kernel) rfl rfl (Nat.le_of_ble_eq_true rfl) dX0_init_49 (fun H locs hP hD hS => ?_)
  replace hP : va_P D vwCl [(a_t, .inr (0, [.int k_width, .int k_height, .int k_barges, .long k_walls, .long k_taken, .ref a_n7, .ref a_n15, .ref a_n23, .ref a_n31, .ref a_n39, .ref a_n47, .null, .null])), (a_n7, .inl (cT 0, 12, .inl (fun _ => (0 : Int32)))), (a_n15, .inl (cT 0, 12, .inl (fun _ => (0 : Int32)))), (a_n23, .inl (cT 0, 12, .inl (fun _ => (0 : Int32)))), (a_n31, .inl (cT 0, 12, .inl (fun _ => (0 : Int32)))), (a_n39, .inl (cT 2, 12, .inl (fun _ => (0 : Int32)))), (a_n47, .inl (cT 0, 12, .inl (fun _ => (0 : Int32))))] H := hP
  replace hD : va_D A [(a_t, .inr (0, [.int k_width, .int k_height, .int k_barges, .long k_walls, .long k_taken, .ref a_n7, .ref a_n15, .ref a_n23, .ref a_n31, .ref a_n39, .ref a_n47, .null, .null])), (a_n7, .inl (cT 0, 12, .inl (fun _ => (0 : Int32)))), (a_n15, .inl (cT 0, 12, .inl (fun _ => (0 : Int32)))), (a_n23, .inl (cT 0, 12, .inl (fun _ => (0 : Int32)))), (a_n31, .inl (cT 0, 12, .inl (fun _ => (0 : Int32)))), (a_n39, .inl (cT 2, 12, .inl (fun _ => (0 : Int32)))), (a_n47, .inl (cT 0, 12, .inl (fun _ => (0 : Int32))))] := hD
  refine lv_aload_n hx hb dX0_init_52 rfl (lv_at hl 0 rfl) ?_
  refine lv_bipush (v := 12) hx hb dX0_init_53 (by decide) ?_
  refine jnewa (atype := .int) (t0 := 0) (ty := .int) (N2 := 12) (a0 := (12, .inl (fun _ => 0))) hx hb (hts (.arrayClass .int) (List.mem_of_getElem? (i := 4) (by decide +kernel))) rfl hK hP hD hS hA rfl (fun _ => rfl) (by decide) (by decide) (by decide) (Nat.le_of_ble_eq_true rfl) (Nat.le_of_ble_eq_true rfl) dX0_init_55 (fun a_n55 H hP hD hS => ?_)
  replace hP : va_P D vwCl [(a_t, .inr (0, [.int k_width, .int k_height, .int k_barges, .long k_walls, .long k_taken, .ref a_n7, .ref a_n15, .ref a_n23, .ref a_n31, .ref a_n39, .ref a_n47, .null, .null])), (a_n7, .inl (cT 0, 12, .inl (fun _ => (0 : Int32)))), (a_n15, .inl (cT 0, 12, .inl (fun _ => (0 : Int32)))), (a_n23, .inl (cT 0, 12, .inl (fun _ => (0 : Int32)))), (a_n31, .inl (cT 0, 12, .inl (fun _ => (0 : Int32)))), (a_n39, .inl (cT 2, 12, .inl (fun _ => (0 : Int32)))), (a_n47, .inl (cT 0, 12, .inl (fun _ => (0 : Int32)))), (a_n55, .inl (cT 0, 12, .inl (fun _ => (0 : Int32))))] H := hP
  replace hD : va_D A [(a_t, .inr (0, [.int k_width, .int k_height, .int k_barges, .long k_walls, .long k_taken, .ref a_n7, .ref a_n15, .ref a_n23, .ref a_n31, .ref a_n39, .ref a_n47, .null, .null])), (a_n7, .inl (cT 0, 12, .inl (fun _ => (0 : Int32)))), (a_n15, .inl (cT 0, 12, .inl (fun _ => (0 : Int32)))), (a_n23, .inl (cT 0, 12, .inl (fun _ => (0 : Int32)))), (a_n31, .inl (cT 0, 12, .inl (fun _ => (0 : Int32)))), (a_n39, .inl (cT 2, 12, .inl (fun _ => (0 : Int32)))), (a_n47, .inl (cT 0, 12, .inl (fun _ => (0 : Int32)))), (a_n55, .inl (cT 0, 12, .inl (fun _ => (0 : Int32))))] := hD
  refine W.widen (k := 7) (n := 84) (Nat.le_of_ble_eq_true rfl) (Nat.le_of_ble_eq_true rfl) ?_
  refine va_putF (D := D) (ci := 0) (v := .ref a_n55) (ty := (.array .int)) (C := RX0) (T := TX0) (N := 13) hx hb hts iw_wsX0_init_X0 tyX0 tyX0_ok nmX0 hown hK hP hD hS 0 rfl rfl 11 (by decide) (hts (.fieldLink RX0 31 "BargeBasin$Chart" "high" "[I") (List.mem_of_getElem? (i := 12) (by decide +kernel))) (fun _ h9 => h9) rfl hin rfl (by decide +kernel) rfl rfl (Nat.le_of_ble_eq_true rfl) dX0_init_57 (fun H locs hP hD hS => ?_)
  replace hP : va_P D vwCl [(a_t, .inr (0, [.int k_width, .int k_height, .int k_barges, .long k_walls, .long k_taken, .ref a_n7, .ref a_n15, .ref a_n23, .ref a_n31, .ref a_n39, .ref a_n47, .ref a_n55, .null])), (a_n7, .inl (cT 0, 12, .inl (fun _ => (0 : Int32)))), (a_n15, .inl (cT 0, 12, .inl (fun _ => (0 : Int32)))), (a_n23, .inl (cT 0, 12, .inl (fun _ => (0 : Int32)))), (a_n31, .inl (cT 0, 12, .inl (fun _ => (0 : Int32)))), (a_n39, .inl (cT 2, 12, .inl (fun _ => (0 : Int32)))), (a_n47, .inl (cT 0, 12, .inl (fun _ => (0 : Int32)))), (a_n55, .inl (cT 0, 12, .inl (fun _ => (0 : Int32))))] H := hP
  replace hD : va_D A [(a_t, .inr (0, [.int k_width, .int k_height, .int k_barges, .long k_walls, .long k_taken, .ref a_n7, .ref a_n15, .ref a_n23, .ref a_n31, .ref a_n39, .ref a_n47, .ref a_n55, .null])), (a_n7, .inl (cT 0, 12, .inl (fun _ => (0 : Int32)))), (a_n15, .inl (cT 0, 12, .inl (fun _ => (0 : Int32)))), (a_n23, .inl (cT 0, 12, .inl (fun _ => (0 : Int32)))), (a_n31, .inl (cT 0, 12, .inl (fun _ => (0 : Int32)))), (a_n39, .inl (cT 2, 12, .inl (fun _ => (0 : Int32)))), (a_n47, .inl (cT 0, 12, .inl (fun _ => (0 : Int32)))), (a_n55, .inl (cT 0, 12, .inl (fun _ => (0 : Int32))))] := hD
  refine lv_aload_n hx hb dX0_init_60 rfl (lv_at hl 0 rfl) ?_
  refine lv_bipush (v := 12) hx hb dX0_init_61 (by decide) ?_
  refine jnewa (atype := .long) (t0 := 1) (ty := .long) (N2 := 12) (a0 := (12, .inr (.inl (fun _ => 0)))) hx hb (hts (.arrayClass .long) (List.mem_of_getElem? (i := 13) (by decide +kernel))) rfl hK hP hD hS hA rfl (fun _ => rfl) (by decide) (by decide) (by decide) (Nat.le_of_ble_eq_true rfl) (Nat.le_of_ble_eq_true rfl) dX0_init_63 (fun a_n63 H hP hD hS => ?_)
  replace hP : va_P D vwCl [(a_t, .inr (0, [.int k_width, .int k_height, .int k_barges, .long k_walls, .long k_taken, .ref a_n7, .ref a_n15, .ref a_n23, .ref a_n31, .ref a_n39, .ref a_n47, .ref a_n55, .null])), (a_n7, .inl (cT 0, 12, .inl (fun _ => (0 : Int32)))), (a_n15, .inl (cT 0, 12, .inl (fun _ => (0 : Int32)))), (a_n23, .inl (cT 0, 12, .inl (fun _ => (0 : Int32)))), (a_n31, .inl (cT 0, 12, .inl (fun _ => (0 : Int32)))), (a_n39, .inl (cT 2, 12, .inl (fun _ => (0 : Int32)))), (a_n47, .inl (cT 0, 12, .inl (fun _ => (0 : Int32)))), (a_n55, .inl (cT 0, 12, .inl (fun _ => (0 : Int32)))), (a_n63, .inl (cT 1, 12, .inr (.inl (fun _ => (0 : Int64)))))] H := hP
  replace hD : va_D A [(a_t, .inr (0, [.int k_width, .int k_height, .int k_barges, .long k_walls, .long k_taken, .ref a_n7, .ref a_n15, .ref a_n23, .ref a_n31, .ref a_n39, .ref a_n47, .ref a_n55, .null])), (a_n7, .inl (cT 0, 12, .inl (fun _ => (0 : Int32)))), (a_n15, .inl (cT 0, 12, .inl (fun _ => (0 : Int32)))), (a_n23, .inl (cT 0, 12, .inl (fun _ => (0 : Int32)))), (a_n31, .inl (cT 0, 12, .inl (fun _ => (0 : Int32)))), (a_n39, .inl (cT 2, 12, .inl (fun _ => (0 : Int32)))), (a_n47, .inl (cT 0, 12, .inl (fun _ => (0 : Int32)))), (a_n55, .inl (cT 0, 12, .inl (fun _ => (0 : Int32)))), (a_n63, .inl (cT 1, 12, .inr (.inl (fun _ => (0 : Int64)))))] := hD
  refine W.widen (k := 8) (n := 96) (Nat.le_of_ble_eq_true rfl) (Nat.le_of_ble_eq_true rfl) ?_
  refine va_putF (D := D) (ci := 0) (v := .ref a_n63) (ty := (.array .long)) (C := RX0) (T := TX0) (N := 13) hx hb hts iw_wsX0_init_X0 tyX0 tyX0_ok nmX0 hown hK hP hD hS 0 rfl rfl 12 (by decide) (hts (.fieldLink RX0 34 "BargeBasin$Chart" "shape" "[J") (List.mem_of_getElem? (i := 14) (by decide +kernel))) (fun _ h9 => h9) rfl hin rfl (by decide +kernel) rfl rfl (Nat.le_of_ble_eq_true rfl) dX0_init_65 (fun H locs hP hD hS => ?_)
  replace hP : va_P D vwCl [(a_t, .inr (0, [.int k_width, .int k_height, .int k_barges, .long k_walls, .long k_taken, .ref a_n7, .ref a_n15, .ref a_n23, .ref a_n31, .ref a_n39, .ref a_n47, .ref a_n55, .ref a_n63])), (a_n7, .inl (cT 0, 12, .inl (fun _ => (0 : Int32)))), (a_n15, .inl (cT 0, 12, .inl (fun _ => (0 : Int32)))), (a_n23, .inl (cT 0, 12, .inl (fun _ => (0 : Int32)))), (a_n31, .inl (cT 0, 12, .inl (fun _ => (0 : Int32)))), (a_n39, .inl (cT 2, 12, .inl (fun _ => (0 : Int32)))), (a_n47, .inl (cT 0, 12, .inl (fun _ => (0 : Int32)))), (a_n55, .inl (cT 0, 12, .inl (fun _ => (0 : Int32)))), (a_n63, .inl (cT 1, 12, .inr (.inl (fun _ => (0 : Int64)))))] H := hP
  replace hD : va_D A [(a_t, .inr (0, [.int k_width, .int k_height, .int k_barges, .long k_walls, .long k_taken, .ref a_n7, .ref a_n15, .ref a_n23, .ref a_n31, .ref a_n39, .ref a_n47, .ref a_n55, .ref a_n63])), (a_n7, .inl (cT 0, 12, .inl (fun _ => (0 : Int32)))), (a_n15, .inl (cT 0, 12, .inl (fun _ => (0 : Int32)))), (a_n23, .inl (cT 0, 12, .inl (fun _ => (0 : Int32)))), (a_n31, .inl (cT 0, 12, .inl (fun _ => (0 : Int32)))), (a_n39, .inl (cT 2, 12, .inl (fun _ => (0 : Int32)))), (a_n47, .inl (cT 0, 12, .inl (fun _ => (0 : Int32)))), (a_n55, .inl (cT 0, 12, .inl (fun _ => (0 : Int32)))), (a_n63, .inl (cT 1, 12, .inr (.inl (fun _ => (0 : Int64)))))] := hD
  cases hf
  refine W.widen (k := 8) (n := 96) (Nat.le_of_ble_eq_true rfl) (Nat.le_of_ble_eq_true rfl) ?_
  exact W.vret hx hb hr (fun t ht hW => ⟨⟨(), rfl, trivial, a_n7, a_n15, a_n23, a_n31, a_n39, a_n47, a_n55, a_n63, by rw [ht]; exact hP, va_K.moved hW.alike hK, hD⟩, hS.F ht⟩) hS.2.2 dX0_init_68
theorem iw_wsX0_dropAll_X0 : ∀ w ∈ wsX00, w ∈ wsX0_dropAll := fun _ h => List.mem_cons_of_mem _ (List.mem_append_right _ h)
abbrev rm_Chart_dropAll : Room := { frames := 0, cells := 0, slots := 0, locals := 0 }
set_option maxHeartbeats 4000000 in
set_option maxRecDepth 100000 in
theorem c_f_Chart_dropAll (l : Launch) (D : va_G) (cT : Nat → ClassId) (sz : Nat) (a_t a_kind a_place a_length a_gate a_across a_wide a_high a_shape : Nat) (k_width : Int32) (k_height : Int32) (k_barges : Int32) (k_walls : Int64) (k_taken : Int64) (k_barges₉ : Int32) (k_taken₉ : Int64) (hf : f_Chart_dropAll k_barges k_taken = some (k_barges₉, k_taken₉)) : Met l yX0_dropAll wsX0_dropAll rm_Chart_dropAll (va_Pc [.ref a_t] (fun U => U.heap.size = sz ∧ va_P D vwCl [(a_t, .inr (0, [.int k_width, .int k_height, .int k_barges, .long k_walls, .long k_taken, .ref a_kind, .ref a_place, .ref a_length, .ref a_gate, .ref a_across, .ref a_wide, .ref a_high, .ref a_shape]))] U.heap ∧ va_K D vwCl (jT cT) U ∧ jNw U ∧ va_D (fun _ => True) [(a_t, .inr (0, [.int k_width, .int k_height, .int k_barges, .long k_walls, .long k_taken, .ref a_kind, .ref a_place, .ref a_length, .ref a_gate, .ref a_across, .ref a_wide, .ref a_high, .ref a_shape]))])) (va_Qv (fun _ : Unit => True) (fun (_ : Unit) t => va_P D vwCl [(a_t, .inr (0, [.int k_width, .int k_height, .int k_barges₉, .long k_walls, .long k_taken₉, .ref a_kind, .ref a_place, .ref a_length, .ref a_gate, .ref a_across, .ref a_wide, .ref a_high, .ref a_shape]))] t.heap ∧ va_K D vwCl (jT cT) t ∧ va_D (va_A [(a_t, .inr (0, [.int k_width, .int k_height, .int k_barges, .long k_walls, .long k_taken, .ref a_kind, .ref a_place, .ref a_length, .ref a_gate, .ref a_across, .ref a_wide, .ref a_high, .ref a_shape]))] sz) [(a_t, .inr (0, [.int k_width, .int k_height, .int k_barges₉, .long k_walls, .long k_taken₉, .ref a_kind, .ref a_place, .ref a_length, .ref a_gate, .ref a_across, .ref a_wide, .ref a_high, .ref a_shape]))]) (va_A [(a_t, .inr (0, [.int k_width, .int k_height, .int k_barges, .long k_walls, .long k_taken, .ref a_kind, .ref a_place, .ref a_length, .ref a_gate, .ref a_across, .ref a_wide, .ref a_high, .ref a_shape]))] sz)) 0 0 (va_A [(a_t, .inr (0, [.int k_width, .int k_height, .int k_barges, .long k_walls, .long k_taken, .ref a_kind, .ref a_place, .ref a_length, .ref a_gate, .ref a_across, .ref a_wide, .ref a_high, .ref a_shape]))] sz) := by
  refine Met.ofW (cc := cX0_dropAll) (maxL := 1) (ret := none) (by decide) rfl ?_
  intro p e s m args below meth c s₁ B hml hv
  obtain ⟨rfl, hsz, hP, hK, hN, hD0⟩ := hv
  have hx := B.exec
  have hb := B.bytes
  have hr := B.returns
  have hts := atoms_spec (ws := wsX0_dropAll) B.pre
  have hown : s.vm.findClass RX0 = some m.cls := findClass_of_methodNamed B.named
  have hlocks := B.notSynchronized
  subst hsz
  have hD := hD0.self (sz := s.heap.size)
  clear hD0
  generalize hAe : va_A [(a_t, .inr (0, [.int k_width, .int k_height, .int k_barges, .long k_walls, .long k_taken, .ref a_kind, .ref a_place, .ref a_length, .ref a_gate, .ref a_across, .ref a_wide, .ref a_high, .ref a_shape]))] s.heap.size = A at hD ⊢
  have hA : ∀ q : Nat, s.heap.size ≤ q → A q := fun q h => by rw [← hAe]; exact Or.inr h
  clear hAe
  have hl := lv_entry ([.ref a_t]) (n := 1) (Nat.le_of_ble_eq_true rfl)
  rw [lg_entry_eq]
  generalize (lg_sl ([.ref a_t]) ++ List.replicate (1 - (lg_sl ([.ref a_t])).length) Slot.unset).toArray = ls at hl ⊢
  have hl : lv_has ls 1 [(0, .ref a_t)] := hl
  refine j_start (A := A) hP (fun H locs hP hS => ?_)
  unfold f_Chart_dropAll at hf
  refine lv_aload_n hx hb dX0_dropAll_0 rfl (lv_at hl 0 rfl) ?_
  refine lv_iconst (v := 0) hx hb dX0_dropAll_1 (by decide) ?_
  refine va_put (D := D) (ci := 0) (v := .int ((0 : Int32))) (ty := .int) (C := RX0) (T := TX0) (N := 13) hx hb hts iw_wsX0_dropAll_X0 tyX0 tyX0_ok nmX0 hown hK hP hD hS 0 rfl rfl 2 (by decide) (hts (.fieldLink RX0 52 "BargeBasin$Chart" "barges" "I") (List.mem_of_getElem? (i := 1) (by decide +kernel))) (fun _ h9 => h9) rfl (by decide +kernel) rfl rfl (Nat.le_of_ble_eq_true rfl) dX0_dropAll_2 (fun H locs hP hD hS => ?_)
  replace hP : va_P D vwCl [(a_t, .inr (0, [.int k_width, .int k_height, .int ((0 : Int32)), .long k_walls, .long k_taken, .ref a_kind, .ref a_place, .ref a_length, .ref a_gate, .ref a_across, .ref a_wide, .ref a_high, .ref a_shape]))] H := hP
  replace hD : va_D A [(a_t, .inr (0, [.int k_width, .int k_height, .int ((0 : Int32)), .long k_walls, .long k_taken, .ref a_kind, .ref a_place, .ref a_length, .ref a_gate, .ref a_across, .ref a_wide, .ref a_high, .ref a_shape]))] := hD
  refine lv_aload_n hx hb dX0_dropAll_5 rfl (lv_at hl 0 rfl) ?_
  refine lv_lconst (v := 0) hx hb dX0_dropAll_6 (by decide) ?_
  refine va_put (D := D) (ci := 0) (v := .long ((0 : Int64))) (ty := .long) (C := RX0) (T := TX0) (N := 13) hx hb hts iw_wsX0_dropAll_X0 tyX0 tyX0_ok nmX0 hown hK hP hD hS 0 rfl rfl 4 (by decide) (hts (.fieldLink RX0 55 "BargeBasin$Chart" "taken" "J") (List.mem_of_getElem? (i := 2) (by decide +kernel))) (fun _ h9 => h9) rfl (by decide +kernel) rfl rfl (Nat.le_of_ble_eq_true rfl) dX0_dropAll_7 (fun H locs hP hD hS => ?_)
  replace hP : va_P D vwCl [(a_t, .inr (0, [.int k_width, .int k_height, .int ((0 : Int32)), .long k_walls, .long ((0 : Int64)), .ref a_kind, .ref a_place, .ref a_length, .ref a_gate, .ref a_across, .ref a_wide, .ref a_high, .ref a_shape]))] H := hP
  replace hD : va_D A [(a_t, .inr (0, [.int k_width, .int k_height, .int ((0 : Int32)), .long k_walls, .long ((0 : Int64)), .ref a_kind, .ref a_place, .ref a_length, .ref a_gate, .ref a_across, .ref a_wide, .ref a_high, .ref a_shape]))] := hD
  replace hf := ob_t2 hf
  obtain ⟨ee0, ee1⟩ := hf
  subst ee0
  subst ee1
  exact W.vret hx hb hr (fun t ht hW => ⟨⟨(), rfl, trivial, by rw [ht]; exact hP, va_K.moved hW.alike hK, hD⟩, hS.F ht⟩) hS.2.2 dX0_dropAll_10
theorem iw_wsX0_empty_X0 : ∀ w ∈ wsX00, w ∈ wsX0_empty := fun _ h => List.mem_cons_of_mem _ (List.mem_append_right _ h)
abbrev rm_Chart_empty : Room := { frames := 1, cells := 0, slots := 0, locals := 20 }
set_option maxHeartbeats 4000000 in
set_option maxRecDepth 100000 in
theorem c_f_Chart_empty (l : Launch) (D : va_G) (cT : Nat → ClassId) (sz : Nat) (a_t a_kind a_place a_length a_gate a_across a_wide a_high a_shape : Nat) (k_width : Int32) (k_height : Int32) (k_barges : Int32) (k_walls : Int64) (k_taken : Int64) (v1 : Int32) (v2 : Int32) (k_width₉ : Int32) (k_height₉ : Int32) (k_barges₉ : Int32) (k_walls₉ : Int64) (k_taken₉ : Int64) (hf : f_Chart_empty v1 v2 k_width k_height k_barges k_walls k_taken = some (k_width₉, k_height₉, k_barges₉, k_walls₉, k_taken₉)) : Met l yX0_empty wsX0_empty rm_Chart_empty (va_Pc [.ref a_t, .int v1, .int v2] (fun U => U.heap.size = sz ∧ va_P D vwCl [(a_t, .inr (0, [.int k_width, .int k_height, .int k_barges, .long k_walls, .long k_taken, .ref a_kind, .ref a_place, .ref a_length, .ref a_gate, .ref a_across, .ref a_wide, .ref a_high, .ref a_shape]))] U.heap ∧ va_K D vwCl (jT cT) U ∧ jNw U ∧ va_D (fun _ => True) [(a_t, .inr (0, [.int k_width, .int k_height, .int k_barges, .long k_walls, .long k_taken, .ref a_kind, .ref a_place, .ref a_length, .ref a_gate, .ref a_across, .ref a_wide, .ref a_high, .ref a_shape]))])) (va_Qv (fun _ : Unit => True) (fun (_ : Unit) t => va_P D vwCl [(a_t, .inr (0, [.int k_width₉, .int k_height₉, .int k_barges₉, .long k_walls₉, .long k_taken₉, .ref a_kind, .ref a_place, .ref a_length, .ref a_gate, .ref a_across, .ref a_wide, .ref a_high, .ref a_shape]))] t.heap ∧ va_K D vwCl (jT cT) t ∧ va_D (va_A [(a_t, .inr (0, [.int k_width, .int k_height, .int k_barges, .long k_walls, .long k_taken, .ref a_kind, .ref a_place, .ref a_length, .ref a_gate, .ref a_across, .ref a_wide, .ref a_high, .ref a_shape]))] sz) [(a_t, .inr (0, [.int k_width₉, .int k_height₉, .int k_barges₉, .long k_walls₉, .long k_taken₉, .ref a_kind, .ref a_place, .ref a_length, .ref a_gate, .ref a_across, .ref a_wide, .ref a_high, .ref a_shape]))]) (va_A [(a_t, .inr (0, [.int k_width, .int k_height, .int k_barges, .long k_walls, .long k_taken, .ref a_kind, .ref a_place, .ref a_length, .ref a_gate, .ref a_across, .ref a_wide, .ref a_high, .ref a_shape]))] sz)) 0 0 (va_A [(a_t, .inr (0, [.int k_width, .int k_height, .int k_barges, .long k_walls, .long k_taken, .ref a_kind, .ref a_place, .ref a_length, .ref a_gate, .ref a_across, .ref a_wide, .ref a_high, .ref a_shape]))] sz) := by
  refine Met.ofW (cc := cX0_empty) (maxL := 3) (ret := none) (by decide) rfl ?_
  intro p e s m args below meth c s₁ B hml hv
  obtain ⟨rfl, hsz, hP, hK, hN, hD0⟩ := hv
  have hx := B.exec
  have hb := B.bytes
  have hr := B.returns
  have hts := atoms_spec (ws := wsX0_empty) B.pre
  have hown : s.vm.findClass RX0 = some m.cls := findClass_of_methodNamed B.named
  have hlocks := B.notSynchronized
  subst hsz
  have hD := hD0.self (sz := s.heap.size)
  clear hD0
  generalize hAe : va_A [(a_t, .inr (0, [.int k_width, .int k_height, .int k_barges, .long k_walls, .long k_taken, .ref a_kind, .ref a_place, .ref a_length, .ref a_gate, .ref a_across, .ref a_wide, .ref a_high, .ref a_shape]))] s.heap.size = A at hD ⊢
  have hA : ∀ q : Nat, s.heap.size ≤ q → A q := fun q h => by rw [← hAe]; exact Or.inr h
  clear hAe
  have hl := lv_entry ([.ref a_t, .int v1, .int v2]) (n := 3) (Nat.le_of_ble_eq_true rfl)
  rw [lg_entry_eq]
  generalize (lg_sl ([.ref a_t, .int v1, .int v2]) ++ List.replicate (3 - (lg_sl ([.ref a_t, .int v1, .int v2])).length) Slot.unset).toArray = ls at hl ⊢
  have hl : lv_has ls 3 [(0, .ref a_t), (1, .int v1), (2, .int v2)] := hl
  refine j_start (A := A) hP (fun H locs hP hS => ?_)
  unfold f_Chart_empty at hf
  refine lv_aload_n hx hb dX0_empty_0 rfl (lv_at hl 0 rfl) ?_
  refine lv_iload_n hx hb dX0_empty_1 rfl (lv_at hl 1 rfl) ?_
  refine va_put (D := D) (ci := 0) (v := .int v1) (ty := .int) (C := RX0) (T := TX0) (N := 13) hx hb hts iw_wsX0_empty_X0 tyX0 tyX0_ok nmX0 hown hK hP hD hS 0 rfl rfl 0 (by decide) (hts (.fieldLink RX0 38 "BargeBasin$Chart" "width" "I") (List.mem_of_getElem? (i := 1) (by decide +kernel))) (fun _ h9 => h9) rfl (by decide +kernel) rfl rfl (Nat.le_of_ble_eq_true rfl) dX0_empty_2 (fun H locs hP hD hS => ?_)
  replace hP : va_P D vwCl [(a_t, .inr (0, [.int v1, .int k_height, .int k_barges, .long k_walls, .long k_taken, .ref a_kind, .ref a_place, .ref a_length, .ref a_gate, .ref a_across, .ref a_wide, .ref a_high, .ref a_shape]))] H := hP
  replace hD : va_D A [(a_t, .inr (0, [.int v1, .int k_height, .int k_barges, .long k_walls, .long k_taken, .ref a_kind, .ref a_place, .ref a_length, .ref a_gate, .ref a_across, .ref a_wide, .ref a_high, .ref a_shape]))] := hD
  refine lv_aload_n hx hb dX0_empty_5 rfl (lv_at hl 0 rfl) ?_
  refine lv_iload_n hx hb dX0_empty_6 rfl (lv_at hl 2 rfl) ?_
  refine va_put (D := D) (ci := 0) (v := .int v2) (ty := .int) (C := RX0) (T := TX0) (N := 13) hx hb hts iw_wsX0_empty_X0 tyX0 tyX0_ok nmX0 hown hK hP hD hS 0 rfl rfl 1 (by decide) (hts (.fieldLink RX0 42 "BargeBasin$Chart" "height" "I") (List.mem_of_getElem? (i := 2) (by decide +kernel))) (fun _ h9 => h9) rfl (by decide +kernel) rfl rfl (Nat.le_of_ble_eq_true rfl) dX0_empty_7 (fun H locs hP hD hS => ?_)
  replace hP : va_P D vwCl [(a_t, .inr (0, [.int v1, .int v2, .int k_barges, .long k_walls, .long k_taken, .ref a_kind, .ref a_place, .ref a_length, .ref a_gate, .ref a_across, .ref a_wide, .ref a_high, .ref a_shape]))] H := hP
  replace hD : va_D A [(a_t, .inr (0, [.int v1, .int v2, .int k_barges, .long k_walls, .long k_taken, .ref a_kind, .ref a_place, .ref a_length, .ref a_gate, .ref a_across, .ref a_wide, .ref a_high, .ref a_shape]))] := hD
  refine lv_aload_n hx hb dX0_empty_10 rfl (lv_at hl 0 rfl) ?_
  refine lv_lconst (v := 0) hx hb dX0_empty_11 (by decide) ?_
  refine va_put (D := D) (ci := 0) (v := .long ((0 : Int64))) (ty := .long) (C := RX0) (T := TX0) (N := 13) hx hb hts iw_wsX0_empty_X0 tyX0 tyX0_ok nmX0 hown hK hP hD hS 0 rfl rfl 3 (by decide) (hts (.fieldLink RX0 45 "BargeBasin$Chart" "walls" "J") (List.mem_of_getElem? (i := 3) (by decide +kernel))) (fun _ h9 => h9) rfl (by decide +kernel) rfl rfl (Nat.le_of_ble_eq_true rfl) dX0_empty_12 (fun H locs hP hD hS => ?_)
  replace hP : va_P D vwCl [(a_t, .inr (0, [.int v1, .int v2, .int k_barges, .long ((0 : Int64)), .long k_taken, .ref a_kind, .ref a_place, .ref a_length, .ref a_gate, .ref a_across, .ref a_wide, .ref a_high, .ref a_shape]))] H := hP
  replace hD : va_D A [(a_t, .inr (0, [.int v1, .int v2, .int k_barges, .long ((0 : Int64)), .long k_taken, .ref a_kind, .ref a_place, .ref a_length, .ref a_gate, .ref a_across, .ref a_wide, .ref a_high, .ref a_shape]))] := hD
  refine lv_aload_n hx hb dX0_empty_15 rfl (lv_at hl 0 rfl) ?_
  replace hf := ob_b hf
  obtain ⟨⟨k_barges_1, k_taken_2⟩, hc_3, hf⟩ := hf
  replace hf := ob_un2 hf
  have hPc := hP.sub (ws' := [(a_t, .inr (0, [.int v1, .int v2, .int k_barges, .long ((0 : Int64)), .long k_taken, .ref a_kind, .ref a_place, .ref a_length, .ref a_gate, .ref a_across, .ref a_wide, .ref a_high, .ref a_shape]))]) [0] rfl
  have hDc := hD.sub (ws' := [(a_t, .inr (0, [.int v1, .int v2, .int k_barges, .long ((0 : Int64)), .long k_taken, .ref a_kind, .ref a_place, .ref a_length, .ref a_gate, .ref a_across, .ref a_wide, .ref a_high, .ref a_shape]))]) [0] (by decide) rfl
  have hFc := va_free (wc := [(a_t, .inr (0, [.int v1, .int v2, .int k_barges, .long ((0 : Int64)), .long k_taken, .ref a_kind, .ref a_place, .ref a_length, .ref a_gate, .ref a_across, .ref a_wide, .ref a_high, .ref a_shape]))]) hD hS hA [0] rfl
  refine va_callv (va_runV (As := []) (rest := []) ⟨hx, hb, hml, hown, hts⟩ (c_f_Chart_dropAll l D cT H.size a_t a_kind a_place a_length a_gate a_across a_wide a_high a_shape v1 v2 k_barges ((0 : Int64)) k_taken _ _ hc_3) (cwV 0 hts gX0_empty_X0_dropAll rfl rfl rfl (by decide +kernel) ⟨Nat.le_of_ble_eq_true rfl, Nat.le_of_ble_eq_true rfl⟩) ⟨fun a U g mk q => by obtain ⟨q0, q1, qP, qK, qN, qD⟩ := q; exact ⟨q0, q1, qP, va_K.moved (u := U) (U := U.calling g mk a) (Vm.Alike.refl U.vm) qK, jNw_same (u := U) (U := U.calling g mk a) rfl qN, qD⟩, va_recv hK hP (ci := 0) (q0 := 0) rfl rfl, fun U hU hW => ⟨rfl, by rw [hU], by rw [hU]; exact hPc, va_K.moved hW.alike hK, jNw_warm hW hN, hDc.weaken (fun _ _ _ _ => trivial)⟩⟩ rfl rfl hl.1 rfl (lv_room (Nat.le_of_ble_eq_true rfl)) dX0_empty_16 ⟨Nat.le_of_ble_eq_true rfl, Nat.le_of_ble_eq_true rfl⟩) hS (fun q _ h => hFc q h) hFc (fun u t H1 locs ht hvm er_4 hB hz1 hk1 hS => ?_)
  obtain ⟨hP1, hK1, hD1⟩ := hB
  rw [ht] at hP1
  have hPD := va_join (wr := []) (w1 := [(a_t, .inr (0, [.int v1, .int v2, .int k_barges_1, .long ((0 : Int64)), .long k_taken_2, .ref a_kind, .ref a_place, .ref a_length, .ref a_gate, .ref a_across, .ref a_wide, .ref a_high, .ref a_shape]))]) hP hD [0] [] rfl rfl (by decide) (by decide) hk1 hFc hP1 hD1
  clear hP hD
  obtain ⟨hP, hD⟩ := hPD
  replace hP := hP.sub (ws' := [(a_t, .inr (0, [.int v1, .int v2, .int k_barges_1, .long ((0 : Int64)), .long k_taken_2, .ref a_kind, .ref a_place, .ref a_length, .ref a_gate, .ref a_across, .ref a_wide, .ref a_high, .ref a_shape]))]) [0] rfl
  replace hD := hD.sub (ws' := [(a_t, .inr (0, [.int v1, .int v2, .int k_barges_1, .long ((0 : Int64)), .long k_taken_2, .ref a_kind, .ref a_place, .ref a_length, .ref a_gate, .ref a_across, .ref a_wide, .ref a_high, .ref a_shape]))]) [0] (by decide) rfl
  clear hPc hDc hFc hP1 hK1 hD1 hk1 hz1
  generalize H1 = H at hP hS ⊢
  replace hf := ob_t5 hf
  obtain ⟨ee0, ee1, ee2, ee3, ee4⟩ := hf
  subst ee0
  subst ee1
  subst ee2
  subst ee3
  subst ee4
  exact W.vret hx hb hr (fun t ht hW => ⟨⟨(), rfl, trivial, by rw [ht]; exact hP, va_K.moved hW.alike hK, hD⟩, hS.F ht⟩) hS.2.2 dX0_empty_19
theorem iw_wsX0_copyBarge_X0 : ∀ w ∈ wsX00, w ∈ wsX0_copyBarge := fun _ h => List.mem_cons_of_mem _ (List.mem_append_right _ h)
abbrev rm_Chart_copyBarge : Room := { frames := 0, cells := 0, slots := 0, locals := 0 }
set_option maxHeartbeats 4000000 in
set_option maxRecDepth 100000 in
theorem c_f_Chart_copyBarge (l : Launch) (D : va_G) (cT : Nat → ClassId) (sz : Nat) (a_t a_p1 a_kind a_place a_length a_gate a_across a_wide a_high a_shape a_p1_kind a_p1_place a_p1_length a_p1_gate a_p1_across a_p1_wide a_p1_high a_p1_shape : Nat) (k_width : Int32) (k_height : Int32) (k_barges : Int32) (k_walls : Int64) (k_taken : Int64) (k_kind : Nat → Int32) (k_place : Nat → Int32) (k_length : Nat → Int32) (k_gate : Nat → Int32) (k_across : Nat → Int32) (k_wide : Nat → Int32) (k_high : Nat → Int32) (k_shape : Nat → Int64) (k_p1_width : Int32) (k_p1_height : Int32) (k_p1_barges : Int32) (k_p1_walls : Int64) (k_p1_taken : Int64) (k_p1_kind : Nat → Int32) (k_p1_place : Nat → Int32) (k_p1_length : Nat → Int32) (k_p1_gate : Nat → Int32) (k_p1_across : Nat → Int32) (k_p1_wide : Nat → Int32) (k_p1_high : Nat → Int32) (k_p1_shape : Nat → Int64) (v2 : Int32) (v3 : Int32) (k_kind₉ : Nat → Int32) (k_place₉ : Nat → Int32) (k_length₉ : Nat → Int32) (k_gate₉ : Nat → Int32) (k_across₉ : Nat → Int32) (k_wide₉ : Nat → Int32) (k_high₉ : Nat → Int32) (k_shape₉ : Nat → Int64) (hf : f_Chart_copyBarge v2 v3 k_kind k_place k_length k_gate k_across k_wide k_high k_shape k_p1_kind k_p1_place k_p1_length k_p1_gate k_p1_across k_p1_wide k_p1_high k_p1_shape = some (k_kind₉, k_place₉, k_length₉, k_gate₉, k_across₉, k_wide₉, k_high₉, k_shape₉)) : Met l yX0_copyBarge wsX0_copyBarge rm_Chart_copyBarge (va_Pc [.ref a_t, .ref a_p1, .int v2, .int v3] (fun U => U.heap.size = sz ∧ va_P D vwCl [(a_t, .inr (0, [.int k_width, .int k_height, .int k_barges, .long k_walls, .long k_taken, .ref a_kind, .ref a_place, .ref a_length, .ref a_gate, .ref a_across, .ref a_wide, .ref a_high, .ref a_shape])), (a_kind, .inl (cT 0, 12, .inl k_kind)), (a_place, .inl (cT 0, 12, .inl k_place)), (a_length, .inl (cT 0, 12, .inl k_length)), (a_gate, .inl (cT 0, 12, .inl k_gate)), (a_across, .inl (cT 2, 12, .inl k_across)), (a_wide, .inl (cT 0, 12, .inl k_wide)), (a_high, .inl (cT 0, 12, .inl k_high)), (a_shape, .inl (cT 1, 12, .inr (.inl k_shape))), (a_p1, .inr (0, [.int k_p1_width, .int k_p1_height, .int k_p1_barges, .long k_p1_walls, .long k_p1_taken, .ref a_p1_kind, .ref a_p1_place, .ref a_p1_length, .ref a_p1_gate, .ref a_p1_across, .ref a_p1_wide, .ref a_p1_high, .ref a_p1_shape])), (a_p1_kind, .inl (cT 0, 12, .inl k_p1_kind)), (a_p1_place, .inl (cT 0, 12, .inl k_p1_place)), (a_p1_length, .inl (cT 0, 12, .inl k_p1_length)), (a_p1_gate, .inl (cT 0, 12, .inl k_p1_gate)), (a_p1_across, .inl (cT 2, 12, .inl k_p1_across)), (a_p1_wide, .inl (cT 0, 12, .inl k_p1_wide)), (a_p1_high, .inl (cT 0, 12, .inl k_p1_high)), (a_p1_shape, .inl (cT 1, 12, .inr (.inl k_p1_shape)))] U.heap ∧ va_K D vwCl (jT cT) U ∧ jNw U ∧ va_D (fun _ => True) [(a_t, .inr (0, [.int k_width, .int k_height, .int k_barges, .long k_walls, .long k_taken, .ref a_kind, .ref a_place, .ref a_length, .ref a_gate, .ref a_across, .ref a_wide, .ref a_high, .ref a_shape])), (a_kind, .inl (cT 0, 12, .inl k_kind)), (a_place, .inl (cT 0, 12, .inl k_place)), (a_length, .inl (cT 0, 12, .inl k_length)), (a_gate, .inl (cT 0, 12, .inl k_gate)), (a_across, .inl (cT 2, 12, .inl k_across)), (a_wide, .inl (cT 0, 12, .inl k_wide)), (a_high, .inl (cT 0, 12, .inl k_high)), (a_shape, .inl (cT 1, 12, .inr (.inl k_shape))), (a_p1, .inr (0, [.int k_p1_width, .int k_p1_height, .int k_p1_barges, .long k_p1_walls, .long k_p1_taken, .ref a_p1_kind, .ref a_p1_place, .ref a_p1_length, .ref a_p1_gate, .ref a_p1_across, .ref a_p1_wide, .ref a_p1_high, .ref a_p1_shape])), (a_p1_kind, .inl (cT 0, 12, .inl k_p1_kind)), (a_p1_place, .inl (cT 0, 12, .inl k_p1_place)), (a_p1_length, .inl (cT 0, 12, .inl k_p1_length)), (a_p1_gate, .inl (cT 0, 12, .inl k_p1_gate)), (a_p1_across, .inl (cT 2, 12, .inl k_p1_across)), (a_p1_wide, .inl (cT 0, 12, .inl k_p1_wide)), (a_p1_high, .inl (cT 0, 12, .inl k_p1_high)), (a_p1_shape, .inl (cT 1, 12, .inr (.inl k_p1_shape)))])) (va_Qv (fun _ : Unit => True) (fun (_ : Unit) t => va_P D vwCl [(a_t, .inr (0, [.int k_width, .int k_height, .int k_barges, .long k_walls, .long k_taken, .ref a_kind, .ref a_place, .ref a_length, .ref a_gate, .ref a_across, .ref a_wide, .ref a_high, .ref a_shape])), (a_kind, .inl (cT 0, 12, .inl k_kind₉)), (a_place, .inl (cT 0, 12, .inl k_place₉)), (a_length, .inl (cT 0, 12, .inl k_length₉)), (a_gate, .inl (cT 0, 12, .inl k_gate₉)), (a_across, .inl (cT 2, 12, .inl k_across₉)), (a_wide, .inl (cT 0, 12, .inl k_wide₉)), (a_high, .inl (cT 0, 12, .inl k_high₉)), (a_shape, .inl (cT 1, 12, .inr (.inl k_shape₉))), (a_p1, .inr (0, [.int k_p1_width, .int k_p1_height, .int k_p1_barges, .long k_p1_walls, .long k_p1_taken, .ref a_p1_kind, .ref a_p1_place, .ref a_p1_length, .ref a_p1_gate, .ref a_p1_across, .ref a_p1_wide, .ref a_p1_high, .ref a_p1_shape])), (a_p1_kind, .inl (cT 0, 12, .inl k_p1_kind)), (a_p1_place, .inl (cT 0, 12, .inl k_p1_place)), (a_p1_length, .inl (cT 0, 12, .inl k_p1_length)), (a_p1_gate, .inl (cT 0, 12, .inl k_p1_gate)), (a_p1_across, .inl (cT 2, 12, .inl k_p1_across)), (a_p1_wide, .inl (cT 0, 12, .inl k_p1_wide)), (a_p1_high, .inl (cT 0, 12, .inl k_p1_high)), (a_p1_shape, .inl (cT 1, 12, .inr (.inl k_p1_shape)))] t.heap ∧ va_K D vwCl (jT cT) t ∧ va_D (va_A [(a_t, .inr (0, [.int k_width, .int k_height, .int k_barges, .long k_walls, .long k_taken, .ref a_kind, .ref a_place, .ref a_length, .ref a_gate, .ref a_across, .ref a_wide, .ref a_high, .ref a_shape])), (a_kind, .inl (cT 0, 12, .inl k_kind)), (a_place, .inl (cT 0, 12, .inl k_place)), (a_length, .inl (cT 0, 12, .inl k_length)), (a_gate, .inl (cT 0, 12, .inl k_gate)), (a_across, .inl (cT 2, 12, .inl k_across)), (a_wide, .inl (cT 0, 12, .inl k_wide)), (a_high, .inl (cT 0, 12, .inl k_high)), (a_shape, .inl (cT 1, 12, .inr (.inl k_shape))), (a_p1, .inr (0, [.int k_p1_width, .int k_p1_height, .int k_p1_barges, .long k_p1_walls, .long k_p1_taken, .ref a_p1_kind, .ref a_p1_place, .ref a_p1_length, .ref a_p1_gate, .ref a_p1_across, .ref a_p1_wide, .ref a_p1_high, .ref a_p1_shape])), (a_p1_kind, .inl (cT 0, 12, .inl k_p1_kind)), (a_p1_place, .inl (cT 0, 12, .inl k_p1_place)), (a_p1_length, .inl (cT 0, 12, .inl k_p1_length)), (a_p1_gate, .inl (cT 0, 12, .inl k_p1_gate)), (a_p1_across, .inl (cT 2, 12, .inl k_p1_across)), (a_p1_wide, .inl (cT 0, 12, .inl k_p1_wide)), (a_p1_high, .inl (cT 0, 12, .inl k_p1_high)), (a_p1_shape, .inl (cT 1, 12, .inr (.inl k_p1_shape)))] sz) [(a_t, .inr (0, [.int k_width, .int k_height, .int k_barges, .long k_walls, .long k_taken, .ref a_kind, .ref a_place, .ref a_length, .ref a_gate, .ref a_across, .ref a_wide, .ref a_high, .ref a_shape])), (a_kind, .inl (cT 0, 12, .inl k_kind₉)), (a_place, .inl (cT 0, 12, .inl k_place₉)), (a_length, .inl (cT 0, 12, .inl k_length₉)), (a_gate, .inl (cT 0, 12, .inl k_gate₉)), (a_across, .inl (cT 2, 12, .inl k_across₉)), (a_wide, .inl (cT 0, 12, .inl k_wide₉)), (a_high, .inl (cT 0, 12, .inl k_high₉)), (a_shape, .inl (cT 1, 12, .inr (.inl k_shape₉))), (a_p1, .inr (0, [.int k_p1_width, .int k_p1_height, .int k_p1_barges, .long k_p1_walls, .long k_p1_taken, .ref a_p1_kind, .ref a_p1_place, .ref a_p1_length, .ref a_p1_gate, .ref a_p1_across, .ref a_p1_wide, .ref a_p1_high, .ref a_p1_shape])), (a_p1_kind, .inl (cT 0, 12, .inl k_p1_kind)), (a_p1_place, .inl (cT 0, 12, .inl k_p1_place)), (a_p1_length, .inl (cT 0, 12, .inl k_p1_length)), (a_p1_gate, .inl (cT 0, 12, .inl k_p1_gate)), (a_p1_across, .inl (cT 2, 12, .inl k_p1_across)), (a_p1_wide, .inl (cT 0, 12, .inl k_p1_wide)), (a_p1_high, .inl (cT 0, 12, .inl k_p1_high)), (a_p1_shape, .inl (cT 1, 12, .inr (.inl k_p1_shape)))]) (va_A [(a_t, .inr (0, [.int k_width, .int k_height, .int k_barges, .long k_walls, .long k_taken, .ref a_kind, .ref a_place, .ref a_length, .ref a_gate, .ref a_across, .ref a_wide, .ref a_high, .ref a_shape])), (a_kind, .inl (cT 0, 12, .inl k_kind)), (a_place, .inl (cT 0, 12, .inl k_place)), (a_length, .inl (cT 0, 12, .inl k_length)), (a_gate, .inl (cT 0, 12, .inl k_gate)), (a_across, .inl (cT 2, 12, .inl k_across)), (a_wide, .inl (cT 0, 12, .inl k_wide)), (a_high, .inl (cT 0, 12, .inl k_high)), (a_shape, .inl (cT 1, 12, .inr (.inl k_shape))), (a_p1, .inr (0, [.int k_p1_width, .int k_p1_height, .int k_p1_barges, .long k_p1_walls, .long k_p1_taken, .ref a_p1_kind, .ref a_p1_place, .ref a_p1_length, .ref a_p1_gate, .ref a_p1_across, .ref a_p1_wide, .ref a_p1_high, .ref a_p1_shape])), (a_p1_kind, .inl (cT 0, 12, .inl k_p1_kind)), (a_p1_place, .inl (cT 0, 12, .inl k_p1_place)), (a_p1_length, .inl (cT 0, 12, .inl k_p1_length)), (a_p1_gate, .inl (cT 0, 12, .inl k_p1_gate)), (a_p1_across, .inl (cT 2, 12, .inl k_p1_across)), (a_p1_wide, .inl (cT 0, 12, .inl k_p1_wide)), (a_p1_high, .inl (cT 0, 12, .inl k_p1_high)), (a_p1_shape, .inl (cT 1, 12, .inr (.inl k_p1_shape)))] sz)) 0 0 (va_A [(a_t, .inr (0, [.int k_width, .int k_height, .int k_barges, .long k_walls, .long k_taken, .ref a_kind, .ref a_place, .ref a_length, .ref a_gate, .ref a_across, .ref a_wide, .ref a_high, .ref a_shape])), (a_kind, .inl (cT 0, 12, .inl k_kind)), (a_place, .inl (cT 0, 12, .inl k_place)), (a_length, .inl (cT 0, 12, .inl k_length)), (a_gate, .inl (cT 0, 12, .inl k_gate)), (a_across, .inl (cT 2, 12, .inl k_across)), (a_wide, .inl (cT 0, 12, .inl k_wide)), (a_high, .inl (cT 0, 12, .inl k_high)), (a_shape, .inl (cT 1, 12, .inr (.inl k_shape))), (a_p1, .inr (0, [.int k_p1_width, .int k_p1_height, .int k_p1_barges, .long k_p1_walls, .long k_p1_taken, .ref a_p1_kind, .ref a_p1_place, .ref a_p1_length, .ref a_p1_gate, .ref a_p1_across, .ref a_p1_wide, .ref a_p1_high, .ref a_p1_shape])), (a_p1_kind, .inl (cT 0, 12, .inl k_p1_kind)), (a_p1_place, .inl (cT 0, 12, .inl k_p1_place)), (a_p1_length, .inl (cT 0, 12, .inl k_p1_length)), (a_p1_gate, .inl (cT 0, 12, .inl k_p1_gate)), (a_p1_across, .inl (cT 2, 12, .inl k_p1_across)), (a_p1_wide, .inl (cT 0, 12, .inl k_p1_wide)), (a_p1_high, .inl (cT 0, 12, .inl k_p1_high)), (a_p1_shape, .inl (cT 1, 12, .inr (.inl k_p1_shape)))] sz) := by
  refine Met.ofW (cc := cX0_copyBarge) (maxL := 4) (ret := none) (by decide) rfl ?_
  intro p e s m args below meth c s₁ B hml hv
  obtain ⟨rfl, hsz, hP, hK, hN, hD0⟩ := hv
  have hx := B.exec
  have hb := B.bytes
  have hr := B.returns
  have hts := atoms_spec (ws := wsX0_copyBarge) B.pre
  have hown : s.vm.findClass RX0 = some m.cls := findClass_of_methodNamed B.named
  have hlocks := B.notSynchronized
  subst hsz
  have hD := hD0.self (sz := s.heap.size)
  clear hD0
  generalize hAe : va_A [(a_t, .inr (0, [.int k_width, .int k_height, .int k_barges, .long k_walls, .long k_taken, .ref a_kind, .ref a_place, .ref a_length, .ref a_gate, .ref a_across, .ref a_wide, .ref a_high, .ref a_shape])), (a_kind, .inl (cT 0, 12, .inl k_kind)), (a_place, .inl (cT 0, 12, .inl k_place)), (a_length, .inl (cT 0, 12, .inl k_length)), (a_gate, .inl (cT 0, 12, .inl k_gate)), (a_across, .inl (cT 2, 12, .inl k_across)), (a_wide, .inl (cT 0, 12, .inl k_wide)), (a_high, .inl (cT 0, 12, .inl k_high)), (a_shape, .inl (cT 1, 12, .inr (.inl k_shape))), (a_p1, .inr (0, [.int k_p1_width, .int k_p1_height, .int k_p1_barges, .long k_p1_walls, .long k_p1_taken, .ref a_p1_kind, .ref a_p1_place, .ref a_p1_length, .ref a_p1_gate, .ref a_p1_across, .ref a_p1_wide, .ref a_p1_high, .ref a_p1_shape])), (a_p1_kind, .inl (cT 0, 12, .inl k_p1_kind)), (a_p1_place, .inl (cT 0, 12, .inl k_p1_place)), (a_p1_length, .inl (cT 0, 12, .inl k_p1_length)), (a_p1_gate, .inl (cT 0, 12, .inl k_p1_gate)), (a_p1_across, .inl (cT 2, 12, .inl k_p1_across)), (a_p1_wide, .inl (cT 0, 12, .inl k_p1_wide)), (a_p1_high, .inl (cT 0, 12, .inl k_p1_high)), (a_p1_shape, .inl (cT 1, 12, .inr (.inl k_p1_shape)))] s.heap.size = A at hD ⊢
  have hA : ∀ q : Nat, s.heap.size ≤ q → A q := fun q h => by rw [← hAe]; exact Or.inr h
  clear hAe
  have hl := lv_entry ([.ref a_t, .ref a_p1, .int v2, .int v3]) (n := 4) (Nat.le_of_ble_eq_true rfl)
  rw [lg_entry_eq]
  generalize (lg_sl ([.ref a_t, .ref a_p1, .int v2, .int v3]) ++ List.replicate (4 - (lg_sl ([.ref a_t, .ref a_p1, .int v2, .int v3])).length) Slot.unset).toArray = ls at hl ⊢
  have hl : lv_has ls 4 [(0, .ref a_t), (1, .ref a_p1), (2, .int v2), (3, .int v3)] := hl
  refine j_start (A := A) hP (fun H locs hP hS => ?_)
  unfold f_Chart_copyBarge at hf
  refine lv_aload_n hx hb dX0_copyBarge_0 rfl (lv_at hl 0 rfl) ?_
  refine va_get (D := D) (ci := 0) (v := .ref a_kind) (C := RX0) (T := TX0) (N := 13) hx hb hts iw_wsX0_copyBarge_X0 hown hK hP 0 rfl rfl 5 (by decide) (hts (.fieldLink RX0 9 "BargeBasin$Chart" "kind" "[I") (List.mem_of_getElem? (i := 1) (by decide +kernel))) (fun _ h9 => h9) rfl dX0_copyBarge_1 ?_
  refine lv_iload_n hx hb dX0_copyBarge_4 rfl (lv_at hl 3 rfl) ?_
  refine lv_aload_n hx hb dX0_copyBarge_5 rfl (lv_at hl 1 rfl) ?_
  refine va_get (D := D) (ci := 0) (v := .ref a_p1_kind) (C := RX0) (T := TX0) (N := 13) hx hb hts iw_wsX0_copyBarge_X0 hown hK hP 9 rfl rfl 5 (by decide) (hts (.fieldLink RX0 9 "BargeBasin$Chart" "kind" "[I") (List.mem_of_getElem? (i := 1) (by decide +kernel))) (fun _ h9 => h9) rfl dX0_copyBarge_6 ?_
  refine lv_iload_n hx hb dX0_copyBarge_9 rfl (lv_at hl 2 rfl) ?_
  replace hf := ob_grd hf
  obtain ⟨hi_1, hf⟩ := hf
  refine va_iald hx hb hK hP 10 0 rfl rfl hi_1 dX0_copyBarge_10 ?_
  refine lv_topi (fun w_2 ew_2 => ?_)
  replace hf := ob_nm ew_2 hf
  replace hf := ob_grd hf
  obtain ⟨hi_3, hf⟩ := hf
  refine va_iast hx hb hK hP hD hS 1 0 rfl rfl hi_3 dX0_copyBarge_11 (fun H locs hP hD hS => ?_)
  replace hP : va_P D vwCl [(a_t, .inr (0, [.int k_width, .int k_height, .int k_barges, .long k_walls, .long k_taken, .ref a_kind, .ref a_place, .ref a_length, .ref a_gate, .ref a_across, .ref a_wide, .ref a_high, .ref a_shape])), (a_kind, .inl (cT 0, 12, .inl (upd k_kind v3.toNatClampNeg w_2))), (a_place, .inl (cT 0, 12, .inl k_place)), (a_length, .inl (cT 0, 12, .inl k_length)), (a_gate, .inl (cT 0, 12, .inl k_gate)), (a_across, .inl (cT 2, 12, .inl k_across)), (a_wide, .inl (cT 0, 12, .inl k_wide)), (a_high, .inl (cT 0, 12, .inl k_high)), (a_shape, .inl (cT 1, 12, .inr (.inl k_shape))), (a_p1, .inr (0, [.int k_p1_width, .int k_p1_height, .int k_p1_barges, .long k_p1_walls, .long k_p1_taken, .ref a_p1_kind, .ref a_p1_place, .ref a_p1_length, .ref a_p1_gate, .ref a_p1_across, .ref a_p1_wide, .ref a_p1_high, .ref a_p1_shape])), (a_p1_kind, .inl (cT 0, 12, .inl k_p1_kind)), (a_p1_place, .inl (cT 0, 12, .inl k_p1_place)), (a_p1_length, .inl (cT 0, 12, .inl k_p1_length)), (a_p1_gate, .inl (cT 0, 12, .inl k_p1_gate)), (a_p1_across, .inl (cT 2, 12, .inl k_p1_across)), (a_p1_wide, .inl (cT 0, 12, .inl k_p1_wide)), (a_p1_high, .inl (cT 0, 12, .inl k_p1_high)), (a_p1_shape, .inl (cT 1, 12, .inr (.inl k_p1_shape)))] H := hP
  replace hD : va_D A [(a_t, .inr (0, [.int k_width, .int k_height, .int k_barges, .long k_walls, .long k_taken, .ref a_kind, .ref a_place, .ref a_length, .ref a_gate, .ref a_across, .ref a_wide, .ref a_high, .ref a_shape])), (a_kind, .inl (cT 0, 12, .inl (upd k_kind v3.toNatClampNeg w_2))), (a_place, .inl (cT 0, 12, .inl k_place)), (a_length, .inl (cT 0, 12, .inl k_length)), (a_gate, .inl (cT 0, 12, .inl k_gate)), (a_across, .inl (cT 2, 12, .inl k_across)), (a_wide, .inl (cT 0, 12, .inl k_wide)), (a_high, .inl (cT 0, 12, .inl k_high)), (a_shape, .inl (cT 1, 12, .inr (.inl k_shape))), (a_p1, .inr (0, [.int k_p1_width, .int k_p1_height, .int k_p1_barges, .long k_p1_walls, .long k_p1_taken, .ref a_p1_kind, .ref a_p1_place, .ref a_p1_length, .ref a_p1_gate, .ref a_p1_across, .ref a_p1_wide, .ref a_p1_high, .ref a_p1_shape])), (a_p1_kind, .inl (cT 0, 12, .inl k_p1_kind)), (a_p1_place, .inl (cT 0, 12, .inl k_p1_place)), (a_p1_length, .inl (cT 0, 12, .inl k_p1_length)), (a_p1_gate, .inl (cT 0, 12, .inl k_p1_gate)), (a_p1_across, .inl (cT 2, 12, .inl k_p1_across)), (a_p1_wide, .inl (cT 0, 12, .inl k_p1_wide)), (a_p1_high, .inl (cT 0, 12, .inl k_p1_high)), (a_p1_shape, .inl (cT 1, 12, .inr (.inl k_p1_shape)))] := hD
  refine lv_aload_n hx hb dX0_copyBarge_12 rfl (lv_at hl 0 rfl) ?_
  refine va_get (D := D) (ci := 0) (v := .ref a_place) (C := RX0) (T := TX0) (N := 13) hx hb hts iw_wsX0_copyBarge_X0 hown hK hP 0 rfl rfl 6 (by decide) (hts (.fieldLink RX0 15 "BargeBasin$Chart" "place" "[I") (List.mem_of_getElem? (i := 2) (by decide +kernel))) (fun _ h9 => h9) rfl dX0_copyBarge_13 ?_
  refine lv_iload_n hx hb dX0_copyBarge_16 rfl (lv_at hl 3 rfl) ?_
  refine lv_aload_n hx hb dX0_copyBarge_17 rfl (lv_at hl 1 rfl) ?_
  refine va_get (D := D) (ci := 0) (v := .ref a_p1_place) (C := RX0) (T := TX0) (N := 13) hx hb hts iw_wsX0_copyBarge_X0 hown hK hP 9 rfl rfl 6 (by decide) (hts (.fieldLink RX0 15 "BargeBasin$Chart" "place" "[I") (List.mem_of_getElem? (i := 2) (by decide +kernel))) (fun _ h9 => h9) rfl dX0_copyBarge_18 ?_
  refine lv_iload_n hx hb dX0_copyBarge_21 rfl (lv_at hl 2 rfl) ?_
  replace hf := ob_grd hf
  obtain ⟨hi_4, hf⟩ := hf
  refine va_iald hx hb hK hP 11 0 rfl rfl hi_4 dX0_copyBarge_22 ?_
  refine lv_topi (fun w_5 ew_5 => ?_)
  replace hf := ob_nm ew_5 hf
  replace hf := ob_grd hf
  obtain ⟨hi_6, hf⟩ := hf
  refine va_iast hx hb hK hP hD hS 2 0 rfl rfl hi_6 dX0_copyBarge_23 (fun H locs hP hD hS => ?_)
  replace hP : va_P D vwCl [(a_t, .inr (0, [.int k_width, .int k_height, .int k_barges, .long k_walls, .long k_taken, .ref a_kind, .ref a_place, .ref a_length, .ref a_gate, .ref a_across, .ref a_wide, .ref a_high, .ref a_shape])), (a_kind, .inl (cT 0, 12, .inl (upd k_kind v3.toNatClampNeg w_2))), (a_place, .inl (cT 0, 12, .inl (upd k_place v3.toNatClampNeg w_5))), (a_length, .inl (cT 0, 12, .inl k_length)), (a_gate, .inl (cT 0, 12, .inl k_gate)), (a_across, .inl (cT 2, 12, .inl k_across)), (a_wide, .inl (cT 0, 12, .inl k_wide)), (a_high, .inl (cT 0, 12, .inl k_high)), (a_shape, .inl (cT 1, 12, .inr (.inl k_shape))), (a_p1, .inr (0, [.int k_p1_width, .int k_p1_height, .int k_p1_barges, .long k_p1_walls, .long k_p1_taken, .ref a_p1_kind, .ref a_p1_place, .ref a_p1_length, .ref a_p1_gate, .ref a_p1_across, .ref a_p1_wide, .ref a_p1_high, .ref a_p1_shape])), (a_p1_kind, .inl (cT 0, 12, .inl k_p1_kind)), (a_p1_place, .inl (cT 0, 12, .inl k_p1_place)), (a_p1_length, .inl (cT 0, 12, .inl k_p1_length)), (a_p1_gate, .inl (cT 0, 12, .inl k_p1_gate)), (a_p1_across, .inl (cT 2, 12, .inl k_p1_across)), (a_p1_wide, .inl (cT 0, 12, .inl k_p1_wide)), (a_p1_high, .inl (cT 0, 12, .inl k_p1_high)), (a_p1_shape, .inl (cT 1, 12, .inr (.inl k_p1_shape)))] H := hP
  replace hD : va_D A [(a_t, .inr (0, [.int k_width, .int k_height, .int k_barges, .long k_walls, .long k_taken, .ref a_kind, .ref a_place, .ref a_length, .ref a_gate, .ref a_across, .ref a_wide, .ref a_high, .ref a_shape])), (a_kind, .inl (cT 0, 12, .inl (upd k_kind v3.toNatClampNeg w_2))), (a_place, .inl (cT 0, 12, .inl (upd k_place v3.toNatClampNeg w_5))), (a_length, .inl (cT 0, 12, .inl k_length)), (a_gate, .inl (cT 0, 12, .inl k_gate)), (a_across, .inl (cT 2, 12, .inl k_across)), (a_wide, .inl (cT 0, 12, .inl k_wide)), (a_high, .inl (cT 0, 12, .inl k_high)), (a_shape, .inl (cT 1, 12, .inr (.inl k_shape))), (a_p1, .inr (0, [.int k_p1_width, .int k_p1_height, .int k_p1_barges, .long k_p1_walls, .long k_p1_taken, .ref a_p1_kind, .ref a_p1_place, .ref a_p1_length, .ref a_p1_gate, .ref a_p1_across, .ref a_p1_wide, .ref a_p1_high, .ref a_p1_shape])), (a_p1_kind, .inl (cT 0, 12, .inl k_p1_kind)), (a_p1_place, .inl (cT 0, 12, .inl k_p1_place)), (a_p1_length, .inl (cT 0, 12, .inl k_p1_length)), (a_p1_gate, .inl (cT 0, 12, .inl k_p1_gate)), (a_p1_across, .inl (cT 2, 12, .inl k_p1_across)), (a_p1_wide, .inl (cT 0, 12, .inl k_p1_wide)), (a_p1_high, .inl (cT 0, 12, .inl k_p1_high)), (a_p1_shape, .inl (cT 1, 12, .inr (.inl k_p1_shape)))] := hD
  refine lv_aload_n hx hb dX0_copyBarge_24 rfl (lv_at hl 0 rfl) ?_
  refine va_get (D := D) (ci := 0) (v := .ref a_length) (C := RX0) (T := TX0) (N := 13) hx hb hts iw_wsX0_copyBarge_X0 hown hK hP 0 rfl rfl 7 (by decide) (hts (.fieldLink RX0 18 "BargeBasin$Chart" "length" "[I") (List.mem_of_getElem? (i := 3) (by decide +kernel))) (fun _ h9 => h9) rfl dX0_copyBarge_25 ?_
  refine lv_iload_n hx hb dX0_copyBarge_28 rfl (lv_at hl 3 rfl) ?_
  refine lv_aload_n hx hb dX0_copyBarge_29 rfl (lv_at hl 1 rfl) ?_
  refine va_get (D := D) (ci := 0) (v := .ref a_p1_length) (C := RX0) (T := TX0) (N := 13) hx hb hts iw_wsX0_copyBarge_X0 hown hK hP 9 rfl rfl 7 (by decide) (hts (.fieldLink RX0 18 "BargeBasin$Chart" "length" "[I") (List.mem_of_getElem? (i := 3) (by decide +kernel))) (fun _ h9 => h9) rfl dX0_copyBarge_30 ?_
  refine lv_iload_n hx hb dX0_copyBarge_33 rfl (lv_at hl 2 rfl) ?_
  replace hf := ob_grd hf
  obtain ⟨hi_7, hf⟩ := hf
  refine va_iald hx hb hK hP 12 0 rfl rfl hi_7 dX0_copyBarge_34 ?_
  refine lv_topi (fun w_8 ew_8 => ?_)
  replace hf := ob_nm ew_8 hf
  replace hf := ob_grd hf
  obtain ⟨hi_9, hf⟩ := hf
  refine va_iast hx hb hK hP hD hS 3 0 rfl rfl hi_9 dX0_copyBarge_35 (fun H locs hP hD hS => ?_)
  replace hP : va_P D vwCl [(a_t, .inr (0, [.int k_width, .int k_height, .int k_barges, .long k_walls, .long k_taken, .ref a_kind, .ref a_place, .ref a_length, .ref a_gate, .ref a_across, .ref a_wide, .ref a_high, .ref a_shape])), (a_kind, .inl (cT 0, 12, .inl (upd k_kind v3.toNatClampNeg w_2))), (a_place, .inl (cT 0, 12, .inl (upd k_place v3.toNatClampNeg w_5))), (a_length, .inl (cT 0, 12, .inl (upd k_length v3.toNatClampNeg w_8))), (a_gate, .inl (cT 0, 12, .inl k_gate)), (a_across, .inl (cT 2, 12, .inl k_across)), (a_wide, .inl (cT 0, 12, .inl k_wide)), (a_high, .inl (cT 0, 12, .inl k_high)), (a_shape, .inl (cT 1, 12, .inr (.inl k_shape))), (a_p1, .inr (0, [.int k_p1_width, .int k_p1_height, .int k_p1_barges, .long k_p1_walls, .long k_p1_taken, .ref a_p1_kind, .ref a_p1_place, .ref a_p1_length, .ref a_p1_gate, .ref a_p1_across, .ref a_p1_wide, .ref a_p1_high, .ref a_p1_shape])), (a_p1_kind, .inl (cT 0, 12, .inl k_p1_kind)), (a_p1_place, .inl (cT 0, 12, .inl k_p1_place)), (a_p1_length, .inl (cT 0, 12, .inl k_p1_length)), (a_p1_gate, .inl (cT 0, 12, .inl k_p1_gate)), (a_p1_across, .inl (cT 2, 12, .inl k_p1_across)), (a_p1_wide, .inl (cT 0, 12, .inl k_p1_wide)), (a_p1_high, .inl (cT 0, 12, .inl k_p1_high)), (a_p1_shape, .inl (cT 1, 12, .inr (.inl k_p1_shape)))] H := hP
  replace hD : va_D A [(a_t, .inr (0, [.int k_width, .int k_height, .int k_barges, .long k_walls, .long k_taken, .ref a_kind, .ref a_place, .ref a_length, .ref a_gate, .ref a_across, .ref a_wide, .ref a_high, .ref a_shape])), (a_kind, .inl (cT 0, 12, .inl (upd k_kind v3.toNatClampNeg w_2))), (a_place, .inl (cT 0, 12, .inl (upd k_place v3.toNatClampNeg w_5))), (a_length, .inl (cT 0, 12, .inl (upd k_length v3.toNatClampNeg w_8))), (a_gate, .inl (cT 0, 12, .inl k_gate)), (a_across, .inl (cT 2, 12, .inl k_across)), (a_wide, .inl (cT 0, 12, .inl k_wide)), (a_high, .inl (cT 0, 12, .inl k_high)), (a_shape, .inl (cT 1, 12, .inr (.inl k_shape))), (a_p1, .inr (0, [.int k_p1_width, .int k_p1_height, .int k_p1_barges, .long k_p1_walls, .long k_p1_taken, .ref a_p1_kind, .ref a_p1_place, .ref a_p1_length, .ref a_p1_gate, .ref a_p1_across, .ref a_p1_wide, .ref a_p1_high, .ref a_p1_shape])), (a_p1_kind, .inl (cT 0, 12, .inl k_p1_kind)), (a_p1_place, .inl (cT 0, 12, .inl k_p1_place)), (a_p1_length, .inl (cT 0, 12, .inl k_p1_length)), (a_p1_gate, .inl (cT 0, 12, .inl k_p1_gate)), (a_p1_across, .inl (cT 2, 12, .inl k_p1_across)), (a_p1_wide, .inl (cT 0, 12, .inl k_p1_wide)), (a_p1_high, .inl (cT 0, 12, .inl k_p1_high)), (a_p1_shape, .inl (cT 1, 12, .inr (.inl k_p1_shape)))] := hD
  refine lv_aload_n hx hb dX0_copyBarge_36 rfl (lv_at hl 0 rfl) ?_
  refine va_get (D := D) (ci := 0) (v := .ref a_gate) (C := RX0) (T := TX0) (N := 13) hx hb hts iw_wsX0_copyBarge_X0 hown hK hP 0 rfl rfl 8 (by decide) (hts (.fieldLink RX0 21 "BargeBasin$Chart" "gate" "[I") (List.mem_of_getElem? (i := 4) (by decide +kernel))) (fun _ h9 => h9) rfl dX0_copyBarge_37 ?_
  refine lv_iload_n hx hb dX0_copyBarge_40 rfl (lv_at hl 3 rfl) ?_
  refine lv_aload_n hx hb dX0_copyBarge_41 rfl (lv_at hl 1 rfl) ?_
  refine va_get (D := D) (ci := 0) (v := .ref a_p1_gate) (C := RX0) (T := TX0) (N := 13) hx hb hts iw_wsX0_copyBarge_X0 hown hK hP 9 rfl rfl 8 (by decide) (hts (.fieldLink RX0 21 "BargeBasin$Chart" "gate" "[I") (List.mem_of_getElem? (i := 4) (by decide +kernel))) (fun _ h9 => h9) rfl dX0_copyBarge_42 ?_
  refine lv_iload_n hx hb dX0_copyBarge_45 rfl (lv_at hl 2 rfl) ?_
  replace hf := ob_grd hf
  obtain ⟨hi_10, hf⟩ := hf
  refine va_iald hx hb hK hP 13 0 rfl rfl hi_10 dX0_copyBarge_46 ?_
  refine lv_topi (fun w_11 ew_11 => ?_)
  replace hf := ob_nm ew_11 hf
  replace hf := ob_grd hf
  obtain ⟨hi_12, hf⟩ := hf
  refine va_iast hx hb hK hP hD hS 4 0 rfl rfl hi_12 dX0_copyBarge_47 (fun H locs hP hD hS => ?_)
  replace hP : va_P D vwCl [(a_t, .inr (0, [.int k_width, .int k_height, .int k_barges, .long k_walls, .long k_taken, .ref a_kind, .ref a_place, .ref a_length, .ref a_gate, .ref a_across, .ref a_wide, .ref a_high, .ref a_shape])), (a_kind, .inl (cT 0, 12, .inl (upd k_kind v3.toNatClampNeg w_2))), (a_place, .inl (cT 0, 12, .inl (upd k_place v3.toNatClampNeg w_5))), (a_length, .inl (cT 0, 12, .inl (upd k_length v3.toNatClampNeg w_8))), (a_gate, .inl (cT 0, 12, .inl (upd k_gate v3.toNatClampNeg w_11))), (a_across, .inl (cT 2, 12, .inl k_across)), (a_wide, .inl (cT 0, 12, .inl k_wide)), (a_high, .inl (cT 0, 12, .inl k_high)), (a_shape, .inl (cT 1, 12, .inr (.inl k_shape))), (a_p1, .inr (0, [.int k_p1_width, .int k_p1_height, .int k_p1_barges, .long k_p1_walls, .long k_p1_taken, .ref a_p1_kind, .ref a_p1_place, .ref a_p1_length, .ref a_p1_gate, .ref a_p1_across, .ref a_p1_wide, .ref a_p1_high, .ref a_p1_shape])), (a_p1_kind, .inl (cT 0, 12, .inl k_p1_kind)), (a_p1_place, .inl (cT 0, 12, .inl k_p1_place)), (a_p1_length, .inl (cT 0, 12, .inl k_p1_length)), (a_p1_gate, .inl (cT 0, 12, .inl k_p1_gate)), (a_p1_across, .inl (cT 2, 12, .inl k_p1_across)), (a_p1_wide, .inl (cT 0, 12, .inl k_p1_wide)), (a_p1_high, .inl (cT 0, 12, .inl k_p1_high)), (a_p1_shape, .inl (cT 1, 12, .inr (.inl k_p1_shape)))] H := hP
  replace hD : va_D A [(a_t, .inr (0, [.int k_width, .int k_height, .int k_barges, .long k_walls, .long k_taken, .ref a_kind, .ref a_place, .ref a_length, .ref a_gate, .ref a_across, .ref a_wide, .ref a_high, .ref a_shape])), (a_kind, .inl (cT 0, 12, .inl (upd k_kind v3.toNatClampNeg w_2))), (a_place, .inl (cT 0, 12, .inl (upd k_place v3.toNatClampNeg w_5))), (a_length, .inl (cT 0, 12, .inl (upd k_length v3.toNatClampNeg w_8))), (a_gate, .inl (cT 0, 12, .inl (upd k_gate v3.toNatClampNeg w_11))), (a_across, .inl (cT 2, 12, .inl k_across)), (a_wide, .inl (cT 0, 12, .inl k_wide)), (a_high, .inl (cT 0, 12, .inl k_high)), (a_shape, .inl (cT 1, 12, .inr (.inl k_shape))), (a_p1, .inr (0, [.int k_p1_width, .int k_p1_height, .int k_p1_barges, .long k_p1_walls, .long k_p1_taken, .ref a_p1_kind, .ref a_p1_place, .ref a_p1_length, .ref a_p1_gate, .ref a_p1_across, .ref a_p1_wide, .ref a_p1_high, .ref a_p1_shape])), (a_p1_kind, .inl (cT 0, 12, .inl k_p1_kind)), (a_p1_place, .inl (cT 0, 12, .inl k_p1_place)), (a_p1_length, .inl (cT 0, 12, .inl k_p1_length)), (a_p1_gate, .inl (cT 0, 12, .inl k_p1_gate)), (a_p1_across, .inl (cT 2, 12, .inl k_p1_across)), (a_p1_wide, .inl (cT 0, 12, .inl k_p1_wide)), (a_p1_high, .inl (cT 0, 12, .inl k_p1_high)), (a_p1_shape, .inl (cT 1, 12, .inr (.inl k_p1_shape)))] := hD
  refine lv_aload_n hx hb dX0_copyBarge_48 rfl (lv_at hl 0 rfl) ?_
  refine va_get (D := D) (ci := 0) (v := .ref a_across) (C := RX0) (T := TX0) (N := 13) hx hb hts iw_wsX0_copyBarge_X0 hown hK hP 0 rfl rfl 9 (by decide) (hts (.fieldLink RX0 24 "BargeBasin$Chart" "across" "[Z") (List.mem_of_getElem? (i := 5) (by decide +kernel))) (fun _ h9 => h9) rfl dX0_copyBarge_49 ?_
  refine lv_iload_n hx hb dX0_copyBarge_52 rfl (lv_at hl 3 rfl) ?_
  refine lv_aload_n hx hb dX0_copyBarge_53 rfl (lv_at hl 1 rfl) ?_
  refine va_get (D := D) (ci := 0) (v := .ref a_p1_across) (C := RX0) (T := TX0) (N := 13) hx hb hts iw_wsX0_copyBarge_X0 hown hK hP 9 rfl rfl 9 (by decide) (hts (.fieldLink RX0 24 "BargeBasin$Chart" "across" "[Z") (List.mem_of_getElem? (i := 5) (by decide +kernel))) (fun _ h9 => h9) rfl dX0_copyBarge_54 ?_
  refine lv_iload_n hx hb dX0_copyBarge_57 rfl (lv_at hl 2 rfl) ?_
  replace hf := ob_grd hf
  obtain ⟨hi_13, hf⟩ := hf
  refine va_zald hx hb hK hP 14 2 rfl rfl hi_13 dX0_copyBarge_58 ?_
  refine lv_topi (fun w_14 ew_14 => ?_)
  replace hf := ob_nm ew_14 hf
  replace hf := ob_grd hf
  obtain ⟨hi_15, hf⟩ := hf
  refine va_zast hx hb hK hP hD hS 5 2 rfl rfl hi_15 dX0_copyBarge_59 (fun H locs hP hD hS => ?_)
  replace hP : va_P D vwCl [(a_t, .inr (0, [.int k_width, .int k_height, .int k_barges, .long k_walls, .long k_taken, .ref a_kind, .ref a_place, .ref a_length, .ref a_gate, .ref a_across, .ref a_wide, .ref a_high, .ref a_shape])), (a_kind, .inl (cT 0, 12, .inl (upd k_kind v3.toNatClampNeg w_2))), (a_place, .inl (cT 0, 12, .inl (upd k_place v3.toNatClampNeg w_5))), (a_length, .inl (cT 0, 12, .inl (upd k_length v3.toNatClampNeg w_8))), (a_gate, .inl (cT 0, 12, .inl (upd k_gate v3.toNatClampNeg w_11))), (a_across, .inl (cT 2, 12, .inl (upd k_across v3.toNatClampNeg (vp_nar .boolean w_14)))), (a_wide, .inl (cT 0, 12, .inl k_wide)), (a_high, .inl (cT 0, 12, .inl k_high)), (a_shape, .inl (cT 1, 12, .inr (.inl k_shape))), (a_p1, .inr (0, [.int k_p1_width, .int k_p1_height, .int k_p1_barges, .long k_p1_walls, .long k_p1_taken, .ref a_p1_kind, .ref a_p1_place, .ref a_p1_length, .ref a_p1_gate, .ref a_p1_across, .ref a_p1_wide, .ref a_p1_high, .ref a_p1_shape])), (a_p1_kind, .inl (cT 0, 12, .inl k_p1_kind)), (a_p1_place, .inl (cT 0, 12, .inl k_p1_place)), (a_p1_length, .inl (cT 0, 12, .inl k_p1_length)), (a_p1_gate, .inl (cT 0, 12, .inl k_p1_gate)), (a_p1_across, .inl (cT 2, 12, .inl k_p1_across)), (a_p1_wide, .inl (cT 0, 12, .inl k_p1_wide)), (a_p1_high, .inl (cT 0, 12, .inl k_p1_high)), (a_p1_shape, .inl (cT 1, 12, .inr (.inl k_p1_shape)))] H := hP
  replace hD : va_D A [(a_t, .inr (0, [.int k_width, .int k_height, .int k_barges, .long k_walls, .long k_taken, .ref a_kind, .ref a_place, .ref a_length, .ref a_gate, .ref a_across, .ref a_wide, .ref a_high, .ref a_shape])), (a_kind, .inl (cT 0, 12, .inl (upd k_kind v3.toNatClampNeg w_2))), (a_place, .inl (cT 0, 12, .inl (upd k_place v3.toNatClampNeg w_5))), (a_length, .inl (cT 0, 12, .inl (upd k_length v3.toNatClampNeg w_8))), (a_gate, .inl (cT 0, 12, .inl (upd k_gate v3.toNatClampNeg w_11))), (a_across, .inl (cT 2, 12, .inl (upd k_across v3.toNatClampNeg (vp_nar .boolean w_14)))), (a_wide, .inl (cT 0, 12, .inl k_wide)), (a_high, .inl (cT 0, 12, .inl k_high)), (a_shape, .inl (cT 1, 12, .inr (.inl k_shape))), (a_p1, .inr (0, [.int k_p1_width, .int k_p1_height, .int k_p1_barges, .long k_p1_walls, .long k_p1_taken, .ref a_p1_kind, .ref a_p1_place, .ref a_p1_length, .ref a_p1_gate, .ref a_p1_across, .ref a_p1_wide, .ref a_p1_high, .ref a_p1_shape])), (a_p1_kind, .inl (cT 0, 12, .inl k_p1_kind)), (a_p1_place, .inl (cT 0, 12, .inl k_p1_place)), (a_p1_length, .inl (cT 0, 12, .inl k_p1_length)), (a_p1_gate, .inl (cT 0, 12, .inl k_p1_gate)), (a_p1_across, .inl (cT 2, 12, .inl k_p1_across)), (a_p1_wide, .inl (cT 0, 12, .inl k_p1_wide)), (a_p1_high, .inl (cT 0, 12, .inl k_p1_high)), (a_p1_shape, .inl (cT 1, 12, .inr (.inl k_p1_shape)))] := hD
  refine lv_aload_n hx hb dX0_copyBarge_60 rfl (lv_at hl 0 rfl) ?_
  refine va_get (D := D) (ci := 0) (v := .ref a_wide) (C := RX0) (T := TX0) (N := 13) hx hb hts iw_wsX0_copyBarge_X0 hown hK hP 0 rfl rfl 10 (by decide) (hts (.fieldLink RX0 28 "BargeBasin$Chart" "wide" "[I") (List.mem_of_getElem? (i := 6) (by decide +kernel))) (fun _ h9 => h9) rfl dX0_copyBarge_61 ?_
  refine lv_iload_n hx hb dX0_copyBarge_64 rfl (lv_at hl 3 rfl) ?_
  refine lv_aload_n hx hb dX0_copyBarge_65 rfl (lv_at hl 1 rfl) ?_
  refine va_get (D := D) (ci := 0) (v := .ref a_p1_wide) (C := RX0) (T := TX0) (N := 13) hx hb hts iw_wsX0_copyBarge_X0 hown hK hP 9 rfl rfl 10 (by decide) (hts (.fieldLink RX0 28 "BargeBasin$Chart" "wide" "[I") (List.mem_of_getElem? (i := 6) (by decide +kernel))) (fun _ h9 => h9) rfl dX0_copyBarge_66 ?_
  refine lv_iload_n hx hb dX0_copyBarge_69 rfl (lv_at hl 2 rfl) ?_
  replace hf := ob_grd hf
  obtain ⟨hi_16, hf⟩ := hf
  refine va_iald hx hb hK hP 15 0 rfl rfl hi_16 dX0_copyBarge_70 ?_
  refine lv_topi (fun w_17 ew_17 => ?_)
  replace hf := ob_nm ew_17 hf
  replace hf := ob_grd hf
  obtain ⟨hi_18, hf⟩ := hf
  refine va_iast hx hb hK hP hD hS 6 0 rfl rfl hi_18 dX0_copyBarge_71 (fun H locs hP hD hS => ?_)
  replace hP : va_P D vwCl [(a_t, .inr (0, [.int k_width, .int k_height, .int k_barges, .long k_walls, .long k_taken, .ref a_kind, .ref a_place, .ref a_length, .ref a_gate, .ref a_across, .ref a_wide, .ref a_high, .ref a_shape])), (a_kind, .inl (cT 0, 12, .inl (upd k_kind v3.toNatClampNeg w_2))), (a_place, .inl (cT 0, 12, .inl (upd k_place v3.toNatClampNeg w_5))), (a_length, .inl (cT 0, 12, .inl (upd k_length v3.toNatClampNeg w_8))), (a_gate, .inl (cT 0, 12, .inl (upd k_gate v3.toNatClampNeg w_11))), (a_across, .inl (cT 2, 12, .inl (upd k_across v3.toNatClampNeg (vp_nar .boolean w_14)))), (a_wide, .inl (cT 0, 12, .inl (upd k_wide v3.toNatClampNeg w_17))), (a_high, .inl (cT 0, 12, .inl k_high)), (a_shape, .inl (cT 1, 12, .inr (.inl k_shape))), (a_p1, .inr (0, [.int k_p1_width, .int k_p1_height, .int k_p1_barges, .long k_p1_walls, .long k_p1_taken, .ref a_p1_kind, .ref a_p1_place, .ref a_p1_length, .ref a_p1_gate, .ref a_p1_across, .ref a_p1_wide, .ref a_p1_high, .ref a_p1_shape])), (a_p1_kind, .inl (cT 0, 12, .inl k_p1_kind)), (a_p1_place, .inl (cT 0, 12, .inl k_p1_place)), (a_p1_length, .inl (cT 0, 12, .inl k_p1_length)), (a_p1_gate, .inl (cT 0, 12, .inl k_p1_gate)), (a_p1_across, .inl (cT 2, 12, .inl k_p1_across)), (a_p1_wide, .inl (cT 0, 12, .inl k_p1_wide)), (a_p1_high, .inl (cT 0, 12, .inl k_p1_high)), (a_p1_shape, .inl (cT 1, 12, .inr (.inl k_p1_shape)))] H := hP
  replace hD : va_D A [(a_t, .inr (0, [.int k_width, .int k_height, .int k_barges, .long k_walls, .long k_taken, .ref a_kind, .ref a_place, .ref a_length, .ref a_gate, .ref a_across, .ref a_wide, .ref a_high, .ref a_shape])), (a_kind, .inl (cT 0, 12, .inl (upd k_kind v3.toNatClampNeg w_2))), (a_place, .inl (cT 0, 12, .inl (upd k_place v3.toNatClampNeg w_5))), (a_length, .inl (cT 0, 12, .inl (upd k_length v3.toNatClampNeg w_8))), (a_gate, .inl (cT 0, 12, .inl (upd k_gate v3.toNatClampNeg w_11))), (a_across, .inl (cT 2, 12, .inl (upd k_across v3.toNatClampNeg (vp_nar .boolean w_14)))), (a_wide, .inl (cT 0, 12, .inl (upd k_wide v3.toNatClampNeg w_17))), (a_high, .inl (cT 0, 12, .inl k_high)), (a_shape, .inl (cT 1, 12, .inr (.inl k_shape))), (a_p1, .inr (0, [.int k_p1_width, .int k_p1_height, .int k_p1_barges, .long k_p1_walls, .long k_p1_taken, .ref a_p1_kind, .ref a_p1_place, .ref a_p1_length, .ref a_p1_gate, .ref a_p1_across, .ref a_p1_wide, .ref a_p1_high, .ref a_p1_shape])), (a_p1_kind, .inl (cT 0, 12, .inl k_p1_kind)), (a_p1_place, .inl (cT 0, 12, .inl k_p1_place)), (a_p1_length, .inl (cT 0, 12, .inl k_p1_length)), (a_p1_gate, .inl (cT 0, 12, .inl k_p1_gate)), (a_p1_across, .inl (cT 2, 12, .inl k_p1_across)), (a_p1_wide, .inl (cT 0, 12, .inl k_p1_wide)), (a_p1_high, .inl (cT 0, 12, .inl k_p1_high)), (a_p1_shape, .inl (cT 1, 12, .inr (.inl k_p1_shape)))] := hD
  refine lv_aload_n hx hb dX0_copyBarge_72 rfl (lv_at hl 0 rfl) ?_
  refine va_get (D := D) (ci := 0) (v := .ref a_high) (C := RX0) (T := TX0) (N := 13) hx hb hts iw_wsX0_copyBarge_X0 hown hK hP 0 rfl rfl 11 (by decide) (hts (.fieldLink RX0 31 "BargeBasin$Chart" "high" "[I") (List.mem_of_getElem? (i := 7) (by decide +kernel))) (fun _ h9 => h9) rfl dX0_copyBarge_73 ?_
  refine lv_iload_n hx hb dX0_copyBarge_76 rfl (lv_at hl 3 rfl) ?_
  refine lv_aload_n hx hb dX0_copyBarge_77 rfl (lv_at hl 1 rfl) ?_
  refine va_get (D := D) (ci := 0) (v := .ref a_p1_high) (C := RX0) (T := TX0) (N := 13) hx hb hts iw_wsX0_copyBarge_X0 hown hK hP 9 rfl rfl 11 (by decide) (hts (.fieldLink RX0 31 "BargeBasin$Chart" "high" "[I") (List.mem_of_getElem? (i := 7) (by decide +kernel))) (fun _ h9 => h9) rfl dX0_copyBarge_78 ?_
  refine lv_iload_n hx hb dX0_copyBarge_81 rfl (lv_at hl 2 rfl) ?_
  replace hf := ob_grd hf
  obtain ⟨hi_19, hf⟩ := hf
  refine va_iald hx hb hK hP 16 0 rfl rfl hi_19 dX0_copyBarge_82 ?_
  refine lv_topi (fun w_20 ew_20 => ?_)
  replace hf := ob_nm ew_20 hf
  replace hf := ob_grd hf
  obtain ⟨hi_21, hf⟩ := hf
  refine va_iast hx hb hK hP hD hS 7 0 rfl rfl hi_21 dX0_copyBarge_83 (fun H locs hP hD hS => ?_)
  replace hP : va_P D vwCl [(a_t, .inr (0, [.int k_width, .int k_height, .int k_barges, .long k_walls, .long k_taken, .ref a_kind, .ref a_place, .ref a_length, .ref a_gate, .ref a_across, .ref a_wide, .ref a_high, .ref a_shape])), (a_kind, .inl (cT 0, 12, .inl (upd k_kind v3.toNatClampNeg w_2))), (a_place, .inl (cT 0, 12, .inl (upd k_place v3.toNatClampNeg w_5))), (a_length, .inl (cT 0, 12, .inl (upd k_length v3.toNatClampNeg w_8))), (a_gate, .inl (cT 0, 12, .inl (upd k_gate v3.toNatClampNeg w_11))), (a_across, .inl (cT 2, 12, .inl (upd k_across v3.toNatClampNeg (vp_nar .boolean w_14)))), (a_wide, .inl (cT 0, 12, .inl (upd k_wide v3.toNatClampNeg w_17))), (a_high, .inl (cT 0, 12, .inl (upd k_high v3.toNatClampNeg w_20))), (a_shape, .inl (cT 1, 12, .inr (.inl k_shape))), (a_p1, .inr (0, [.int k_p1_width, .int k_p1_height, .int k_p1_barges, .long k_p1_walls, .long k_p1_taken, .ref a_p1_kind, .ref a_p1_place, .ref a_p1_length, .ref a_p1_gate, .ref a_p1_across, .ref a_p1_wide, .ref a_p1_high, .ref a_p1_shape])), (a_p1_kind, .inl (cT 0, 12, .inl k_p1_kind)), (a_p1_place, .inl (cT 0, 12, .inl k_p1_place)), (a_p1_length, .inl (cT 0, 12, .inl k_p1_length)), (a_p1_gate, .inl (cT 0, 12, .inl k_p1_gate)), (a_p1_across, .inl (cT 2, 12, .inl k_p1_across)), (a_p1_wide, .inl (cT 0, 12, .inl k_p1_wide)), (a_p1_high, .inl (cT 0, 12, .inl k_p1_high)), (a_p1_shape, .inl (cT 1, 12, .inr (.inl k_p1_shape)))] H := hP
  replace hD : va_D A [(a_t, .inr (0, [.int k_width, .int k_height, .int k_barges, .long k_walls, .long k_taken, .ref a_kind, .ref a_place, .ref a_length, .ref a_gate, .ref a_across, .ref a_wide, .ref a_high, .ref a_shape])), (a_kind, .inl (cT 0, 12, .inl (upd k_kind v3.toNatClampNeg w_2))), (a_place, .inl (cT 0, 12, .inl (upd k_place v3.toNatClampNeg w_5))), (a_length, .inl (cT 0, 12, .inl (upd k_length v3.toNatClampNeg w_8))), (a_gate, .inl (cT 0, 12, .inl (upd k_gate v3.toNatClampNeg w_11))), (a_across, .inl (cT 2, 12, .inl (upd k_across v3.toNatClampNeg (vp_nar .boolean w_14)))), (a_wide, .inl (cT 0, 12, .inl (upd k_wide v3.toNatClampNeg w_17))), (a_high, .inl (cT 0, 12, .inl (upd k_high v3.toNatClampNeg w_20))), (a_shape, .inl (cT 1, 12, .inr (.inl k_shape))), (a_p1, .inr (0, [.int k_p1_width, .int k_p1_height, .int k_p1_barges, .long k_p1_walls, .long k_p1_taken, .ref a_p1_kind, .ref a_p1_place, .ref a_p1_length, .ref a_p1_gate, .ref a_p1_across, .ref a_p1_wide, .ref a_p1_high, .ref a_p1_shape])), (a_p1_kind, .inl (cT 0, 12, .inl k_p1_kind)), (a_p1_place, .inl (cT 0, 12, .inl k_p1_place)), (a_p1_length, .inl (cT 0, 12, .inl k_p1_length)), (a_p1_gate, .inl (cT 0, 12, .inl k_p1_gate)), (a_p1_across, .inl (cT 2, 12, .inl k_p1_across)), (a_p1_wide, .inl (cT 0, 12, .inl k_p1_wide)), (a_p1_high, .inl (cT 0, 12, .inl k_p1_high)), (a_p1_shape, .inl (cT 1, 12, .inr (.inl k_p1_shape)))] := hD
  refine lv_aload_n hx hb dX0_copyBarge_84 rfl (lv_at hl 0 rfl) ?_
  refine va_get (D := D) (ci := 0) (v := .ref a_shape) (C := RX0) (T := TX0) (N := 13) hx hb hts iw_wsX0_copyBarge_X0 hown hK hP 0 rfl rfl 12 (by decide) (hts (.fieldLink RX0 34 "BargeBasin$Chart" "shape" "[J") (List.mem_of_getElem? (i := 8) (by decide +kernel))) (fun _ h9 => h9) rfl dX0_copyBarge_85 ?_
  refine lv_iload_n hx hb dX0_copyBarge_88 rfl (lv_at hl 3 rfl) ?_
  refine lv_aload_n hx hb dX0_copyBarge_89 rfl (lv_at hl 1 rfl) ?_
  refine va_get (D := D) (ci := 0) (v := .ref a_p1_shape) (C := RX0) (T := TX0) (N := 13) hx hb hts iw_wsX0_copyBarge_X0 hown hK hP 9 rfl rfl 12 (by decide) (hts (.fieldLink RX0 34 "BargeBasin$Chart" "shape" "[J") (List.mem_of_getElem? (i := 8) (by decide +kernel))) (fun _ h9 => h9) rfl dX0_copyBarge_90 ?_
  refine lv_iload_n hx hb dX0_copyBarge_93 rfl (lv_at hl 2 rfl) ?_
  replace hf := ob_grd hf
  obtain ⟨hi_22, hf⟩ := hf
  refine va_lald hx hb hK hP 17 1 rfl rfl hi_22 dX0_copyBarge_94 ?_
  refine lv_topl (fun w_23 ew_23 => ?_)
  replace hf := ob_nm ew_23 hf
  replace hf := ob_grd hf
  obtain ⟨hi_24, hf⟩ := hf
  refine va_last hx hb hK hP hD hS 8 1 rfl rfl hi_24 dX0_copyBarge_95 (fun H locs hP hD hS => ?_)
  replace hP : va_P D vwCl [(a_t, .inr (0, [.int k_width, .int k_height, .int k_barges, .long k_walls, .long k_taken, .ref a_kind, .ref a_place, .ref a_length, .ref a_gate, .ref a_across, .ref a_wide, .ref a_high, .ref a_shape])), (a_kind, .inl (cT 0, 12, .inl (upd k_kind v3.toNatClampNeg w_2))), (a_place, .inl (cT 0, 12, .inl (upd k_place v3.toNatClampNeg w_5))), (a_length, .inl (cT 0, 12, .inl (upd k_length v3.toNatClampNeg w_8))), (a_gate, .inl (cT 0, 12, .inl (upd k_gate v3.toNatClampNeg w_11))), (a_across, .inl (cT 2, 12, .inl (upd k_across v3.toNatClampNeg (vp_nar .boolean w_14)))), (a_wide, .inl (cT 0, 12, .inl (upd k_wide v3.toNatClampNeg w_17))), (a_high, .inl (cT 0, 12, .inl (upd k_high v3.toNatClampNeg w_20))), (a_shape, .inl (cT 1, 12, .inr (.inl (vp_updL k_shape v3.toNatClampNeg w_23)))), (a_p1, .inr (0, [.int k_p1_width, .int k_p1_height, .int k_p1_barges, .long k_p1_walls, .long k_p1_taken, .ref a_p1_kind, .ref a_p1_place, .ref a_p1_length, .ref a_p1_gate, .ref a_p1_across, .ref a_p1_wide, .ref a_p1_high, .ref a_p1_shape])), (a_p1_kind, .inl (cT 0, 12, .inl k_p1_kind)), (a_p1_place, .inl (cT 0, 12, .inl k_p1_place)), (a_p1_length, .inl (cT 0, 12, .inl k_p1_length)), (a_p1_gate, .inl (cT 0, 12, .inl k_p1_gate)), (a_p1_across, .inl (cT 2, 12, .inl k_p1_across)), (a_p1_wide, .inl (cT 0, 12, .inl k_p1_wide)), (a_p1_high, .inl (cT 0, 12, .inl k_p1_high)), (a_p1_shape, .inl (cT 1, 12, .inr (.inl k_p1_shape)))] H := hP
  replace hD : va_D A [(a_t, .inr (0, [.int k_width, .int k_height, .int k_barges, .long k_walls, .long k_taken, .ref a_kind, .ref a_place, .ref a_length, .ref a_gate, .ref a_across, .ref a_wide, .ref a_high, .ref a_shape])), (a_kind, .inl (cT 0, 12, .inl (upd k_kind v3.toNatClampNeg w_2))), (a_place, .inl (cT 0, 12, .inl (upd k_place v3.toNatClampNeg w_5))), (a_length, .inl (cT 0, 12, .inl (upd k_length v3.toNatClampNeg w_8))), (a_gate, .inl (cT 0, 12, .inl (upd k_gate v3.toNatClampNeg w_11))), (a_across, .inl (cT 2, 12, .inl (upd k_across v3.toNatClampNeg (vp_nar .boolean w_14)))), (a_wide, .inl (cT 0, 12, .inl (upd k_wide v3.toNatClampNeg w_17))), (a_high, .inl (cT 0, 12, .inl (upd k_high v3.toNatClampNeg w_20))), (a_shape, .inl (cT 1, 12, .inr (.inl (vp_updL k_shape v3.toNatClampNeg w_23)))), (a_p1, .inr (0, [.int k_p1_width, .int k_p1_height, .int k_p1_barges, .long k_p1_walls, .long k_p1_taken, .ref a_p1_kind, .ref a_p1_place, .ref a_p1_length, .ref a_p1_gate, .ref a_p1_across, .ref a_p1_wide, .ref a_p1_high, .ref a_p1_shape])), (a_p1_kind, .inl (cT 0, 12, .inl k_p1_kind)), (a_p1_place, .inl (cT 0, 12, .inl k_p1_place)), (a_p1_length, .inl (cT 0, 12, .inl k_p1_length)), (a_p1_gate, .inl (cT 0, 12, .inl k_p1_gate)), (a_p1_across, .inl (cT 2, 12, .inl k_p1_across)), (a_p1_wide, .inl (cT 0, 12, .inl k_p1_wide)), (a_p1_high, .inl (cT 0, 12, .inl k_p1_high)), (a_p1_shape, .inl (cT 1, 12, .inr (.inl k_p1_shape)))] := hD
  replace hf := ob_t8 hf
  obtain ⟨ee0, ee1, ee2, ee3, ee4, ee5, ee6, ee7⟩ := hf
  subst ee0
  subst ee1
  subst ee2
  subst ee3
  subst ee4
  subst ee5
  subst ee6
  subst ee7
  exact W.vret hx hb hr (fun t ht hW => ⟨⟨(), rfl, trivial, by rw [ht]; exact hP, va_K.moved hW.alike hK, hD⟩, hS.F ht⟩) hS.2.2 dX0_copyBarge_96
theorem iw_wsX0_copyFrom_X0 : ∀ w ∈ wsX00, w ∈ wsX0_copyFrom := fun _ h => List.mem_cons_of_mem _ (List.mem_append_right _ h)
abbrev rm_Chart_copyFrom : Room := { frames := 1, cells := 0, slots := 0, locals := 23 }
set_option maxHeartbeats 4000000 in
set_option maxRecDepth 100000 in
theorem l_f_Chart_copyFrom_L42 {p : Program} {l : Launch} {e : Env} {s : State} {m : MethodId} {args : Array Value} {below : List Frame} {meth : Method} {c : Code} {Q : State → Prop} {A : Nat → Prop} {D : va_G} {cT : Nat → ClassId} {a_t a_p1 a_kind a_place a_length a_gate a_across a_wide a_high a_shape a_p1_kind a_p1_place a_p1_length a_p1_gate a_p1_across a_p1_wide a_p1_high a_p1_shape : Nat} {k_width : Int32} {k_height : Int32} {k_barges : Int32} {k_walls : Int64} {k_taken : Int64} {k_p1_width : Int32} {k_p1_height : Int32} {k_p1_barges : Int32} {k_p1_walls : Int64} {k_p1_taken : Int64} {k_p1_kind : Nat → Int32} {k_p1_place : Nat → Int32} {k_p1_length : Nat → Int32} {k_p1_gate : Nat → Int32} {k_p1_across : Nat → Int32} {k_p1_wide : Nat → Int32} {k_p1_high : Nat → Int32} {k_p1_shape : Nat → Int64} (hx : p.tables.exec = Jvm.exec) (hb : c.code = cX0_copyFrom) (hml : c.maxLocals = 3) (hown : s.vm.findClass RX0 = some m.cls) (hts : ∀ w ∈ wsX0_copyFrom, w.before args s = true) (hK : va_K D vwCl (jT cT) s) (hN : jNw s) (hA : ∀ q : Nat, s.heap.size ≤ q → A q) : ∀ (n : Nat) (v2 : Int32) (k_kind : Nat → Int32) (k_place : Nat → Int32) (k_length : Nat → Int32) (k_gate : Nat → Int32) (k_across : Nat → Int32) (k_wide : Nat → Int32) (k_high : Nat → Int32) (k_shape : Nat → Int64) (ex : (Nat → Int32) × (Nat → Int32) × (Nat → Int32) × (Nat → Int32) × (Nat → Int32) × (Nat → Int32) × (Nat → Int32) × (Nat → Int64)), f_Chart_copyFrom_L42 k_barges k_p1_kind k_p1_place k_p1_length k_p1_gate k_p1_across k_p1_wide k_p1_high k_p1_shape n v2 k_kind k_place k_length k_gate k_across k_wide k_high k_shape = some ex → ∀ (H : Heap) (locs : List Loc), va_P D vwCl [(a_t, .inr (0, [.int k_width, .int k_height, .int k_barges, .long k_walls, .long k_taken, .ref a_kind, .ref a_place, .ref a_length, .ref a_gate, .ref a_across, .ref a_wide, .ref a_high, .ref a_shape])), (a_kind, .inl (cT 0, 12, .inl k_kind)), (a_place, .inl (cT 0, 12, .inl k_place)), (a_length, .inl (cT 0, 12, .inl k_length)), (a_gate, .inl (cT 0, 12, .inl k_gate)), (a_across, .inl (cT 2, 12, .inl k_across)), (a_wide, .inl (cT 0, 12, .inl k_wide)), (a_high, .inl (cT 0, 12, .inl k_high)), (a_shape, .inl (cT 1, 12, .inr (.inl k_shape))), (a_p1, .inr (0, [.int k_p1_width, .int k_p1_height, .int k_p1_barges, .long k_p1_walls, .long k_p1_taken, .ref a_p1_kind, .ref a_p1_place, .ref a_p1_length, .ref a_p1_gate, .ref a_p1_across, .ref a_p1_wide, .ref a_p1_high, .ref a_p1_shape])), (a_p1_kind, .inl (cT 0, 12, .inl k_p1_kind)), (a_p1_place, .inl (cT 0, 12, .inl k_p1_place)), (a_p1_length, .inl (cT 0, 12, .inl k_p1_length)), (a_p1_gate, .inl (cT 0, 12, .inl k_p1_gate)), (a_p1_across, .inl (cT 2, 12, .inl k_p1_across)), (a_p1_wide, .inl (cT 0, 12, .inl k_p1_wide)), (a_p1_high, .inl (cT 0, 12, .inl k_p1_high)), (a_p1_shape, .inl (cT 1, 12, .inr (.inl k_p1_shape)))] H → va_D A [(a_t, .inr (0, [.int k_width, .int k_height, .int k_barges, .long k_walls, .long k_taken, .ref a_kind, .ref a_place, .ref a_length, .ref a_gate, .ref a_across, .ref a_wide, .ref a_high, .ref a_shape])), (a_kind, .inl (cT 0, 12, .inl k_kind)), (a_place, .inl (cT 0, 12, .inl k_place)), (a_length, .inl (cT 0, 12, .inl k_length)), (a_gate, .inl (cT 0, 12, .inl k_gate)), (a_across, .inl (cT 2, 12, .inl k_across)), (a_wide, .inl (cT 0, 12, .inl k_wide)), (a_high, .inl (cT 0, 12, .inl k_high)), (a_shape, .inl (cT 1, 12, .inr (.inl k_shape))), (a_p1, .inr (0, [.int k_p1_width, .int k_p1_height, .int k_p1_barges, .long k_p1_walls, .long k_p1_taken, .ref a_p1_kind, .ref a_p1_place, .ref a_p1_length, .ref a_p1_gate, .ref a_p1_across, .ref a_p1_wide, .ref a_p1_high, .ref a_p1_shape])), (a_p1_kind, .inl (cT 0, 12, .inl k_p1_kind)), (a_p1_place, .inl (cT 0, 12, .inl k_p1_place)), (a_p1_length, .inl (cT 0, 12, .inl k_p1_length)), (a_p1_gate, .inl (cT 0, 12, .inl k_p1_gate)), (a_p1_across, .inl (cT 2, 12, .inl k_p1_across)), (a_p1_wide, .inl (cT 0, 12, .inl k_p1_wide)), (a_p1_high, .inl (cT 0, 12, .inl k_p1_high)), (a_p1_shape, .inl (cT 1, 12, .inr (.inl k_p1_shape)))] → va_S A s.heap H locs → ∀ (ls : Array Slot), lv_has ls 3 [(0, .ref a_t), (1, .ref a_p1), (2, .int v2)] → (∀ (k_kind_13 : Nat → Int32) (k_place_14 : Nat → Int32) (k_length_15 : Nat → Int32) (k_gate_16 : Nat → Int32) (k_across_17 : Nat → Int32) (k_wide_18 : Nat → Int32) (k_high_19 : Nat → Int32) (k_shape_20 : Nat → Int64), ex = (k_kind_13, k_place_14, k_length_15, k_gate_16, k_across_17, k_wide_18, k_high_19, k_shape_20) → ∀ (H : Heap) (locs : List Loc), va_P D vwCl [(a_t, .inr (0, [.int k_width, .int k_height, .int k_barges, .long k_walls, .long k_taken, .ref a_kind, .ref a_place, .ref a_length, .ref a_gate, .ref a_across, .ref a_wide, .ref a_high, .ref a_shape])), (a_kind, .inl (cT 0, 12, .inl k_kind_13)), (a_place, .inl (cT 0, 12, .inl k_place_14)), (a_length, .inl (cT 0, 12, .inl k_length_15)), (a_gate, .inl (cT 0, 12, .inl k_gate_16)), (a_across, .inl (cT 2, 12, .inl k_across_17)), (a_wide, .inl (cT 0, 12, .inl k_wide_18)), (a_high, .inl (cT 0, 12, .inl k_high_19)), (a_shape, .inl (cT 1, 12, .inr (.inl k_shape_20))), (a_p1, .inr (0, [.int k_p1_width, .int k_p1_height, .int k_p1_barges, .long k_p1_walls, .long k_p1_taken, .ref a_p1_kind, .ref a_p1_place, .ref a_p1_length, .ref a_p1_gate, .ref a_p1_across, .ref a_p1_wide, .ref a_p1_high, .ref a_p1_shape])), (a_p1_kind, .inl (cT 0, 12, .inl k_p1_kind)), (a_p1_place, .inl (cT 0, 12, .inl k_p1_place)), (a_p1_length, .inl (cT 0, 12, .inl k_p1_length)), (a_p1_gate, .inl (cT 0, 12, .inl k_p1_gate)), (a_p1_across, .inl (cT 2, 12, .inl k_p1_across)), (a_p1_wide, .inl (cT 0, 12, .inl k_p1_wide)), (a_p1_high, .inl (cT 0, 12, .inl k_p1_high)), (a_p1_shape, .inl (cT 1, 12, .inr (.inl k_p1_shape)))] H → va_D A [(a_t, .inr (0, [.int k_width, .int k_height, .int k_barges, .long k_walls, .long k_taken, .ref a_kind, .ref a_place, .ref a_length, .ref a_gate, .ref a_across, .ref a_wide, .ref a_high, .ref a_shape])), (a_kind, .inl (cT 0, 12, .inl k_kind_13)), (a_place, .inl (cT 0, 12, .inl k_place_14)), (a_length, .inl (cT 0, 12, .inl k_length_15)), (a_gate, .inl (cT 0, 12, .inl k_gate_16)), (a_across, .inl (cT 2, 12, .inl k_across_17)), (a_wide, .inl (cT 0, 12, .inl k_wide_18)), (a_high, .inl (cT 0, 12, .inl k_high_19)), (a_shape, .inl (cT 1, 12, .inr (.inl k_shape_20))), (a_p1, .inr (0, [.int k_p1_width, .int k_p1_height, .int k_p1_barges, .long k_p1_walls, .long k_p1_taken, .ref a_p1_kind, .ref a_p1_place, .ref a_p1_length, .ref a_p1_gate, .ref a_p1_across, .ref a_p1_wide, .ref a_p1_high, .ref a_p1_shape])), (a_p1_kind, .inl (cT 0, 12, .inl k_p1_kind)), (a_p1_place, .inl (cT 0, 12, .inl k_p1_place)), (a_p1_length, .inl (cT 0, 12, .inl k_p1_length)), (a_p1_gate, .inl (cT 0, 12, .inl k_p1_gate)), (a_p1_across, .inl (cT 2, 12, .inl k_p1_across)), (a_p1_wide, .inl (cT 0, 12, .inl k_p1_wide)), (a_p1_high, .inl (cT 0, 12, .inl k_p1_high)), (a_p1_shape, .inl (cT 1, 12, .inr (.inl k_p1_shape)))] → va_S A s.heap H locs → ∀ (ls : Array Slot), lv_has ls 3 [] → W p l e (headSpec wsX0_copyFrom rm_Chart_copyFrom).room s m args below meth c H locs 0 0 Q (F0 m 63 ls [])) → W p l e (headSpec wsX0_copyFrom rm_Chart_copyFrom).room s m args below meth c H locs 0 0 Q (F0 m 42 ls []) := by
  intro n
  induction n with
  | zero => intro v2 k_kind k_place k_length k_gate k_across k_wide k_high k_shape ex hf; exact (ob_none hf).elim
  | succ n ih =>
    intro v2 k_kind k_place k_length k_gate k_across k_wide k_high k_shape ex hf H locs hP hD hS ls hl K0
    rw [f_Chart_copyFrom_L42] at hf
    refine lv_iload_n hx hb dX0_copyFrom_42 rfl (lv_at hl 2 rfl) ?_
    refine lv_aload_n hx hb dX0_copyFrom_43 rfl (lv_at hl 0 rfl) ?_
    refine va_get (D := D) (ci := 0) (v := .int k_barges) (C := RX0) (T := TX0) (N := 13) hx hb hts iw_wsX0_copyFrom_X0 hown hK hP 0 rfl rfl 2 (by decide) (hts (.fieldLink RX0 52 "BargeBasin$Chart" "barges" "I") (List.mem_of_getElem? (i := 3) (by decide +kernel))) (fun _ h9 => h9) rfl dX0_copyFrom_44 ?_
    refine lv_icmp_ge (tgt := 63) hx hb dX0_copyFrom_47 (by decide) (fun c_1 => ?_) (fun c_1 => ?_)
    · replace hf := ob_pos c_1 hf
      cases hf
      exact K0 _ _ _ _ _ _ _ _ rfl _ _ hP hD hS ls (lv_sub hl [] rfl)
    · replace hf := ob_neg c_1 hf
      refine lv_aload_n hx hb dX0_copyFrom_50 rfl (lv_at hl 0 rfl) ?_
      refine lv_aload_n hx hb dX0_copyFrom_51 rfl (lv_at hl 1 rfl) ?_
      refine lv_iload_n hx hb dX0_copyFrom_52 rfl (lv_at hl 2 rfl) ?_
      refine lv_iload_n hx hb dX0_copyFrom_53 rfl (lv_at hl 2 rfl) ?_
      replace hf := ob_b hf
      obtain ⟨⟨k_kind_2, k_place_3, k_length_4, k_gate_5, k_across_6, k_wide_7, k_high_8, k_shape_9⟩, hc_10, hf⟩ := hf
      replace hf := ob_un8 hf
      have hPc := hP.sub (ws' := [(a_t, .inr (0, [.int k_width, .int k_height, .int k_barges, .long k_walls, .long k_taken, .ref a_kind, .ref a_place, .ref a_length, .ref a_gate, .ref a_across, .ref a_wide, .ref a_high, .ref a_shape])), (a_kind, .inl (cT 0, 12, .inl k_kind)), (a_place, .inl (cT 0, 12, .inl k_place)), (a_length, .inl (cT 0, 12, .inl k_length)), (a_gate, .inl (cT 0, 12, .inl k_gate)), (a_across, .inl (cT 2, 12, .inl k_across)), (a_wide, .inl (cT 0, 12, .inl k_wide)), (a_high, .inl (cT 0, 12, .inl k_high)), (a_shape, .inl (cT 1, 12, .inr (.inl k_shape))), (a_p1, .inr (0, [.int k_p1_width, .int k_p1_height, .int k_p1_barges, .long k_p1_walls, .long k_p1_taken, .ref a_p1_kind, .ref a_p1_place, .ref a_p1_length, .ref a_p1_gate, .ref a_p1_across, .ref a_p1_wide, .ref a_p1_high, .ref a_p1_shape])), (a_p1_kind, .inl (cT 0, 12, .inl k_p1_kind)), (a_p1_place, .inl (cT 0, 12, .inl k_p1_place)), (a_p1_length, .inl (cT 0, 12, .inl k_p1_length)), (a_p1_gate, .inl (cT 0, 12, .inl k_p1_gate)), (a_p1_across, .inl (cT 2, 12, .inl k_p1_across)), (a_p1_wide, .inl (cT 0, 12, .inl k_p1_wide)), (a_p1_high, .inl (cT 0, 12, .inl k_p1_high)), (a_p1_shape, .inl (cT 1, 12, .inr (.inl k_p1_shape)))]) [0, 1, 2, 3, 4, 5, 6, 7, 8, 9, 10, 11, 12, 13, 14, 15, 16, 17] rfl
      have hDc := hD.sub (ws' := [(a_t, .inr (0, [.int k_width, .int k_height, .int k_barges, .long k_walls, .long k_taken, .ref a_kind, .ref a_place, .ref a_length, .ref a_gate, .ref a_across, .ref a_wide, .ref a_high, .ref a_shape])), (a_kind, .inl (cT 0, 12, .inl k_kind)), (a_place, .inl (cT 0, 12, .inl k_place)), (a_length, .inl (cT 0, 12, .inl k_length)), (a_gate, .inl (cT 0, 12, .inl k_gate)), (a_across, .inl (cT 2, 12, .inl k_across)), (a_wide, .inl (cT 0, 12, .inl k_wide)), (a_high, .inl (cT 0, 12, .inl k_high)), (a_shape, .inl (cT 1, 12, .inr (.inl k_shape))), (a_p1, .inr (0, [.int k_p1_width, .int k_p1_height, .int k_p1_barges, .long k_p1_walls, .long k_p1_taken, .ref a_p1_kind, .ref a_p1_place, .ref a_p1_length, .ref a_p1_gate, .ref a_p1_across, .ref a_p1_wide, .ref a_p1_high, .ref a_p1_shape])), (a_p1_kind, .inl (cT 0, 12, .inl k_p1_kind)), (a_p1_place, .inl (cT 0, 12, .inl k_p1_place)), (a_p1_length, .inl (cT 0, 12, .inl k_p1_length)), (a_p1_gate, .inl (cT 0, 12, .inl k_p1_gate)), (a_p1_across, .inl (cT 2, 12, .inl k_p1_across)), (a_p1_wide, .inl (cT 0, 12, .inl k_p1_wide)), (a_p1_high, .inl (cT 0, 12, .inl k_p1_high)), (a_p1_shape, .inl (cT 1, 12, .inr (.inl k_p1_shape)))]) [0, 1, 2, 3, 4, 5, 6, 7, 8, 9, 10, 11, 12, 13, 14, 15, 16, 17] (by decide) rfl
      have hFc := va_free (wc := [(a_t, .inr (0, [.int k_width, .int k_height, .int k_barges, .long k_walls, .long k_taken, .ref a_kind, .ref a_place, .ref a_length, .ref a_gate, .ref a_across, .ref a_wide, .ref a_high, .ref a_shape])), (a_kind, .inl (cT 0, 12, .inl k_kind)), (a_place, .inl (cT 0, 12, .inl k_place)), (a_length, .inl (cT 0, 12, .inl k_length)), (a_gate, .inl (cT 0, 12, .inl k_gate)), (a_across, .inl (cT 2, 12, .inl k_across)), (a_wide, .inl (cT 0, 12, .inl k_wide)), (a_high, .inl (cT 0, 12, .inl k_high)), (a_shape, .inl (cT 1, 12, .inr (.inl k_shape))), (a_p1, .inr (0, [.int k_p1_width, .int k_p1_height, .int k_p1_barges, .long k_p1_walls, .long k_p1_taken, .ref a_p1_kind, .ref a_p1_place, .ref a_p1_length, .ref a_p1_gate, .ref a_p1_across, .ref a_p1_wide, .ref a_p1_high, .ref a_p1_shape])), (a_p1_kind, .inl (cT 0, 12, .inl k_p1_kind)), (a_p1_place, .inl (cT 0, 12, .inl k_p1_place)), (a_p1_length, .inl (cT 0, 12, .inl k_p1_length)), (a_p1_gate, .inl (cT 0, 12, .inl k_p1_gate)), (a_p1_across, .inl (cT 2, 12, .inl k_p1_across)), (a_p1_wide, .inl (cT 0, 12, .inl k_p1_wide)), (a_p1_high, .inl (cT 0, 12, .inl k_p1_high)), (a_p1_shape, .inl (cT 1, 12, .inr (.inl k_p1_shape)))]) hD hS hA [0, 1, 2, 3, 4, 5, 6, 7, 8, 9, 10, 11, 12, 13, 14, 15, 16, 17] rfl
      refine va_callv (va_runV (As := [.ref a_p1, .int v2, .int v2]) (rest := []) ⟨hx, hb, hml, hown, hts⟩ (c_f_Chart_copyBarge l D cT H.size a_t a_p1 a_kind a_place a_length a_gate a_across a_wide a_high a_shape a_p1_kind a_p1_place a_p1_length a_p1_gate a_p1_across a_p1_wide a_p1_high a_p1_shape k_width k_height k_barges k_walls k_taken k_kind k_place k_length k_gate k_across k_wide k_high k_shape k_p1_width k_p1_height k_p1_barges k_p1_walls k_p1_taken k_p1_kind k_p1_place k_p1_length k_p1_gate k_p1_across k_p1_wide k_p1_high k_p1_shape v2 v2 _ _ _ _ _ _ _ _ hc_10) (cwV 3 hts gX0_copyFrom_X0_copyBarge rfl rfl rfl (by decide +kernel) ⟨Nat.le_of_ble_eq_true rfl, Nat.le_of_ble_eq_true rfl⟩) ⟨fun a U g mk q => by obtain ⟨q0, q1, qP, qK, qN, qD⟩ := q; exact ⟨q0, q1, qP, va_K.moved (u := U) (U := U.calling g mk a) (Vm.Alike.refl U.vm) qK, jNw_same (u := U) (U := U.calling g mk a) rfl qN, qD⟩, va_recv hK hP (ci := 0) (q0 := 0) rfl rfl, fun U hU hW => ⟨rfl, by rw [hU], by rw [hU]; exact hPc, va_K.moved hW.alike hK, jNw_warm hW hN, hDc.weaken (fun _ _ _ _ => trivial)⟩⟩ rfl rfl hl.1 rfl (lv_room (Nat.le_of_ble_eq_true rfl)) dX0_copyFrom_54 ⟨Nat.le_of_ble_eq_true rfl, Nat.le_of_ble_eq_true rfl⟩) hS (fun q _ h => hFc q h) hFc (fun u t H1 locs ht hvm er_11 hB hz1 hk1 hS => ?_)
      obtain ⟨hP1, hK1, hD1⟩ := hB
      rw [ht] at hP1
      have hPD := va_join (wr := []) (w1 := [(a_t, .inr (0, [.int k_width, .int k_height, .int k_barges, .long k_walls, .long k_taken, .ref a_kind, .ref a_place, .ref a_length, .ref a_gate, .ref a_across, .ref a_wide, .ref a_high, .ref a_shape])), (a_kind, .inl (cT 0, 12, .inl k_kind_2)), (a_place, .inl (cT 0, 12, .inl k_place_3)), (a_length, .inl (cT 0, 12, .inl k_length_4)), (a_gate, .inl (cT 0, 12, .inl k_gate_5)), (a_across, .inl (cT 2, 12, .inl k_across_6)), (a_wide, .inl (cT 0, 12, .inl k_wide_7)), (a_high, .inl (cT 0, 12, .inl k_high_8)), (a_shape, .inl (cT 1, 12, .inr (.inl k_shape_9))), (a_p1, .inr (0, [.int k_p1_width, .int k_p1_height, .int k_p1_barges, .long k_p1_walls, .long k_p1_taken, .ref a_p1_kind, .ref a_p1_place, .ref a_p1_length, .ref a_p1_gate, .ref a_p1_across, .ref a_p1_wide, .ref a_p1_high, .ref a_p1_shape])), (a_p1_kind, .inl (cT 0, 12, .inl k_p1_kind)), (a_p1_place, .inl (cT 0, 12, .inl k_p1_place)), (a_p1_length, .inl (cT 0, 12, .inl k_p1_length)), (a_p1_gate, .inl (cT 0, 12, .inl k_p1_gate)), (a_p1_across, .inl (cT 2, 12, .inl k_p1_across)), (a_p1_wide, .inl (cT 0, 12, .inl k_p1_wide)), (a_p1_high, .inl (cT 0, 12, .inl k_p1_high)), (a_p1_shape, .inl (cT 1, 12, .inr (.inl k_p1_shape)))]) hP hD [0, 1, 2, 3, 4, 5, 6, 7, 8, 9, 10, 11, 12, 13, 14, 15, 16, 17] [] rfl rfl (by decide) (by decide) hk1 hFc hP1 hD1
      clear hP hD
      obtain ⟨hP, hD⟩ := hPD
      replace hP := hP.sub (ws' := [(a_t, .inr (0, [.int k_width, .int k_height, .int k_barges, .long k_walls, .long k_taken, .ref a_kind, .ref a_place, .ref a_length, .ref a_gate, .ref a_across, .ref a_wide, .ref a_high, .ref a_shape])), (a_kind, .inl (cT 0, 12, .inl k_kind_2)), (a_place, .inl (cT 0, 12, .inl k_place_3)), (a_length, .inl (cT 0, 12, .inl k_length_4)), (a_gate, .inl (cT 0, 12, .inl k_gate_5)), (a_across, .inl (cT 2, 12, .inl k_across_6)), (a_wide, .inl (cT 0, 12, .inl k_wide_7)), (a_high, .inl (cT 0, 12, .inl k_high_8)), (a_shape, .inl (cT 1, 12, .inr (.inl k_shape_9))), (a_p1, .inr (0, [.int k_p1_width, .int k_p1_height, .int k_p1_barges, .long k_p1_walls, .long k_p1_taken, .ref a_p1_kind, .ref a_p1_place, .ref a_p1_length, .ref a_p1_gate, .ref a_p1_across, .ref a_p1_wide, .ref a_p1_high, .ref a_p1_shape])), (a_p1_kind, .inl (cT 0, 12, .inl k_p1_kind)), (a_p1_place, .inl (cT 0, 12, .inl k_p1_place)), (a_p1_length, .inl (cT 0, 12, .inl k_p1_length)), (a_p1_gate, .inl (cT 0, 12, .inl k_p1_gate)), (a_p1_across, .inl (cT 2, 12, .inl k_p1_across)), (a_p1_wide, .inl (cT 0, 12, .inl k_p1_wide)), (a_p1_high, .inl (cT 0, 12, .inl k_p1_high)), (a_p1_shape, .inl (cT 1, 12, .inr (.inl k_p1_shape)))]) [0, 1, 2, 3, 4, 5, 6, 7, 8, 9, 10, 11, 12, 13, 14, 15, 16, 17] rfl
      replace hD := hD.sub (ws' := [(a_t, .inr (0, [.int k_width, .int k_height, .int k_barges, .long k_walls, .long k_taken, .ref a_kind, .ref a_place, .ref a_length, .ref a_gate, .ref a_across, .ref a_wide, .ref a_high, .ref a_shape])), (a_kind, .inl (cT 0, 12, .inl k_kind_2)), (a_place, .inl (cT 0, 12, .inl k_place_3)), (a_length, .inl (cT 0, 12, .inl k_length_4)), (a_gate, .inl (cT 0, 12, .inl k_gate_5)), (a_across, .inl (cT 2, 12, .inl k_across_6)), (a_wide, .inl (cT 0, 12, .inl k_wide_7)), (a_high, .inl (cT 0, 12, .inl k_high_8)), (a_shape, .inl (cT 1, 12, .inr (.inl k_shape_9))), (a_p1, .inr (0, [.int k_p1_width, .int k_p1_height, .int k_p1_barges, .long k_p1_walls, .long k_p1_taken, .ref a_p1_kind, .ref a_p1_place, .ref a_p1_length, .ref a_p1_gate, .ref a_p1_across, .ref a_p1_wide, .ref a_p1_high, .ref a_p1_shape])), (a_p1_kind, .inl (cT 0, 12, .inl k_p1_kind)), (a_p1_place, .inl (cT 0, 12, .inl k_p1_place)), (a_p1_length, .inl (cT 0, 12, .inl k_p1_length)), (a_p1_gate, .inl (cT 0, 12, .inl k_p1_gate)), (a_p1_across, .inl (cT 2, 12, .inl k_p1_across)), (a_p1_wide, .inl (cT 0, 12, .inl k_p1_wide)), (a_p1_high, .inl (cT 0, 12, .inl k_p1_high)), (a_p1_shape, .inl (cT 1, 12, .inr (.inl k_p1_shape)))]) [0, 1, 2, 3, 4, 5, 6, 7, 8, 9, 10, 11, 12, 13, 14, 15, 16, 17] (by decide) rfl
      clear hPc hDc hFc hP1 hK1 hD1 hk1 hz1
      generalize H1 = H at hP hS ⊢
      obtain ⟨v2_12, ev2_12⟩ : ∃ y : Int32, y = v2 + 1 := ⟨_, rfl⟩
      replace hf := ob_nm ev2_12 hf
      refine lv_iinc (v := v2_12) (lv' := [(2, .int v2_12), (0, .ref a_t), (1, .ref a_p1)]) hx hb dX0_copyFrom_57 hl (k := 2) rfl (by rw [ev2_12]; rfl) (by decide) rfl (fun ls hl => ?_)
      refine lv_goto (tgt := 42) hx hb dX0_copyFrom_60 (by decide) ?_
      exact ih _ _ _ _ _ _ _ _ _ ex hf _ _ hP hD hS ls (lv_sub hl [1, 2, 0] rfl) K0
set_option maxHeartbeats 4000000 in
set_option maxRecDepth 100000 in
theorem c_f_Chart_copyFrom (l : Launch) (D : va_G) (cT : Nat → ClassId) (sz : Nat) (a_t a_p1 a_kind a_place a_length a_gate a_across a_wide a_high a_shape a_p1_kind a_p1_place a_p1_length a_p1_gate a_p1_across a_p1_wide a_p1_high a_p1_shape : Nat) (k_width : Int32) (k_height : Int32) (k_barges : Int32) (k_walls : Int64) (k_taken : Int64) (k_kind : Nat → Int32) (k_place : Nat → Int32) (k_length : Nat → Int32) (k_gate : Nat → Int32) (k_across : Nat → Int32) (k_wide : Nat → Int32) (k_high : Nat → Int32) (k_shape : Nat → Int64) (k_p1_width : Int32) (k_p1_height : Int32) (k_p1_barges : Int32) (k_p1_walls : Int64) (k_p1_taken : Int64) (k_p1_kind : Nat → Int32) (k_p1_place : Nat → Int32) (k_p1_length : Nat → Int32) (k_p1_gate : Nat → Int32) (k_p1_across : Nat → Int32) (k_p1_wide : Nat → Int32) (k_p1_high : Nat → Int32) (k_p1_shape : Nat → Int64) (k_width₉ : Int32) (k_height₉ : Int32) (k_barges₉ : Int32) (k_walls₉ : Int64) (k_taken₉ : Int64) (k_kind₉ : Nat → Int32) (k_place₉ : Nat → Int32) (k_length₉ : Nat → Int32) (k_gate₉ : Nat → Int32) (k_across₉ : Nat → Int32) (k_wide₉ : Nat → Int32) (k_high₉ : Nat → Int32) (k_shape₉ : Nat → Int64) (hf : f_Chart_copyFrom k_width k_height k_barges k_walls k_taken k_kind k_place k_length k_gate k_across k_wide k_high k_shape k_p1_width k_p1_height k_p1_barges k_p1_walls k_p1_taken k_p1_kind k_p1_place k_p1_length k_p1_gate k_p1_across k_p1_wide k_p1_high k_p1_shape = some (k_width₉, k_height₉, k_barges₉, k_walls₉, k_taken₉, k_kind₉, k_place₉, k_length₉, k_gate₉, k_across₉, k_wide₉, k_high₉, k_shape₉)) : Met l yX0_copyFrom wsX0_copyFrom rm_Chart_copyFrom (va_Pc [.ref a_t, .ref a_p1] (fun U => U.heap.size = sz ∧ va_P D vwCl [(a_t, .inr (0, [.int k_width, .int k_height, .int k_barges, .long k_walls, .long k_taken, .ref a_kind, .ref a_place, .ref a_length, .ref a_gate, .ref a_across, .ref a_wide, .ref a_high, .ref a_shape])), (a_kind, .inl (cT 0, 12, .inl k_kind)), (a_place, .inl (cT 0, 12, .inl k_place)), (a_length, .inl (cT 0, 12, .inl k_length)), (a_gate, .inl (cT 0, 12, .inl k_gate)), (a_across, .inl (cT 2, 12, .inl k_across)), (a_wide, .inl (cT 0, 12, .inl k_wide)), (a_high, .inl (cT 0, 12, .inl k_high)), (a_shape, .inl (cT 1, 12, .inr (.inl k_shape))), (a_p1, .inr (0, [.int k_p1_width, .int k_p1_height, .int k_p1_barges, .long k_p1_walls, .long k_p1_taken, .ref a_p1_kind, .ref a_p1_place, .ref a_p1_length, .ref a_p1_gate, .ref a_p1_across, .ref a_p1_wide, .ref a_p1_high, .ref a_p1_shape])), (a_p1_kind, .inl (cT 0, 12, .inl k_p1_kind)), (a_p1_place, .inl (cT 0, 12, .inl k_p1_place)), (a_p1_length, .inl (cT 0, 12, .inl k_p1_length)), (a_p1_gate, .inl (cT 0, 12, .inl k_p1_gate)), (a_p1_across, .inl (cT 2, 12, .inl k_p1_across)), (a_p1_wide, .inl (cT 0, 12, .inl k_p1_wide)), (a_p1_high, .inl (cT 0, 12, .inl k_p1_high)), (a_p1_shape, .inl (cT 1, 12, .inr (.inl k_p1_shape)))] U.heap ∧ va_K D vwCl (jT cT) U ∧ jNw U ∧ va_D (fun _ => True) [(a_t, .inr (0, [.int k_width, .int k_height, .int k_barges, .long k_walls, .long k_taken, .ref a_kind, .ref a_place, .ref a_length, .ref a_gate, .ref a_across, .ref a_wide, .ref a_high, .ref a_shape])), (a_kind, .inl (cT 0, 12, .inl k_kind)), (a_place, .inl (cT 0, 12, .inl k_place)), (a_length, .inl (cT 0, 12, .inl k_length)), (a_gate, .inl (cT 0, 12, .inl k_gate)), (a_across, .inl (cT 2, 12, .inl k_across)), (a_wide, .inl (cT 0, 12, .inl k_wide)), (a_high, .inl (cT 0, 12, .inl k_high)), (a_shape, .inl (cT 1, 12, .inr (.inl k_shape))), (a_p1, .inr (0, [.int k_p1_width, .int k_p1_height, .int k_p1_barges, .long k_p1_walls, .long k_p1_taken, .ref a_p1_kind, .ref a_p1_place, .ref a_p1_length, .ref a_p1_gate, .ref a_p1_across, .ref a_p1_wide, .ref a_p1_high, .ref a_p1_shape])), (a_p1_kind, .inl (cT 0, 12, .inl k_p1_kind)), (a_p1_place, .inl (cT 0, 12, .inl k_p1_place)), (a_p1_length, .inl (cT 0, 12, .inl k_p1_length)), (a_p1_gate, .inl (cT 0, 12, .inl k_p1_gate)), (a_p1_across, .inl (cT 2, 12, .inl k_p1_across)), (a_p1_wide, .inl (cT 0, 12, .inl k_p1_wide)), (a_p1_high, .inl (cT 0, 12, .inl k_p1_high)), (a_p1_shape, .inl (cT 1, 12, .inr (.inl k_p1_shape)))])) (va_Qv (fun _ : Unit => True) (fun (_ : Unit) t => va_P D vwCl [(a_t, .inr (0, [.int k_width₉, .int k_height₉, .int k_barges₉, .long k_walls₉, .long k_taken₉, .ref a_kind, .ref a_place, .ref a_length, .ref a_gate, .ref a_across, .ref a_wide, .ref a_high, .ref a_shape])), (a_kind, .inl (cT 0, 12, .inl k_kind₉)), (a_place, .inl (cT 0, 12, .inl k_place₉)), (a_length, .inl (cT 0, 12, .inl k_length₉)), (a_gate, .inl (cT 0, 12, .inl k_gate₉)), (a_across, .inl (cT 2, 12, .inl k_across₉)), (a_wide, .inl (cT 0, 12, .inl k_wide₉)), (a_high, .inl (cT 0, 12, .inl k_high₉)), (a_shape, .inl (cT 1, 12, .inr (.inl k_shape₉))), (a_p1, .inr (0, [.int k_p1_width, .int k_p1_height, .int k_p1_barges, .long k_p1_walls, .long k_p1_taken, .ref a_p1_kind, .ref a_p1_place, .ref a_p1_length, .ref a_p1_gate, .ref a_p1_across, .ref a_p1_wide, .ref a_p1_high, .ref a_p1_shape])), (a_p1_kind, .inl (cT 0, 12, .inl k_p1_kind)), (a_p1_place, .inl (cT 0, 12, .inl k_p1_place)), (a_p1_length, .inl (cT 0, 12, .inl k_p1_length)), (a_p1_gate, .inl (cT 0, 12, .inl k_p1_gate)), (a_p1_across, .inl (cT 2, 12, .inl k_p1_across)), (a_p1_wide, .inl (cT 0, 12, .inl k_p1_wide)), (a_p1_high, .inl (cT 0, 12, .inl k_p1_high)), (a_p1_shape, .inl (cT 1, 12, .inr (.inl k_p1_shape)))] t.heap ∧ va_K D vwCl (jT cT) t ∧ va_D (va_A [(a_t, .inr (0, [.int k_width, .int k_height, .int k_barges, .long k_walls, .long k_taken, .ref a_kind, .ref a_place, .ref a_length, .ref a_gate, .ref a_across, .ref a_wide, .ref a_high, .ref a_shape])), (a_kind, .inl (cT 0, 12, .inl k_kind)), (a_place, .inl (cT 0, 12, .inl k_place)), (a_length, .inl (cT 0, 12, .inl k_length)), (a_gate, .inl (cT 0, 12, .inl k_gate)), (a_across, .inl (cT 2, 12, .inl k_across)), (a_wide, .inl (cT 0, 12, .inl k_wide)), (a_high, .inl (cT 0, 12, .inl k_high)), (a_shape, .inl (cT 1, 12, .inr (.inl k_shape))), (a_p1, .inr (0, [.int k_p1_width, .int k_p1_height, .int k_p1_barges, .long k_p1_walls, .long k_p1_taken, .ref a_p1_kind, .ref a_p1_place, .ref a_p1_length, .ref a_p1_gate, .ref a_p1_across, .ref a_p1_wide, .ref a_p1_high, .ref a_p1_shape])), (a_p1_kind, .inl (cT 0, 12, .inl k_p1_kind)), (a_p1_place, .inl (cT 0, 12, .inl k_p1_place)), (a_p1_length, .inl (cT 0, 12, .inl k_p1_length)), (a_p1_gate, .inl (cT 0, 12, .inl k_p1_gate)), (a_p1_across, .inl (cT 2, 12, .inl k_p1_across)), (a_p1_wide, .inl (cT 0, 12, .inl k_p1_wide)), (a_p1_high, .inl (cT 0, 12, .inl k_p1_high)), (a_p1_shape, .inl (cT 1, 12, .inr (.inl k_p1_shape)))] sz) [(a_t, .inr (0, [.int k_width₉, .int k_height₉, .int k_barges₉, .long k_walls₉, .long k_taken₉, .ref a_kind, .ref a_place, .ref a_length, .ref a_gate, .ref a_across, .ref a_wide, .ref a_high, .ref a_shape])), (a_kind, .inl (cT 0, 12, .inl k_kind₉)), (a_place, .inl (cT 0, 12, .inl k_place₉)), (a_length, .inl (cT 0, 12, .inl k_length₉)), (a_gate, .inl (cT 0, 12, .inl k_gate₉)), (a_across, .inl (cT 2, 12, .inl k_across₉)), (a_wide, .inl (cT 0, 12, .inl k_wide₉)), (a_high, .inl (cT 0, 12, .inl k_high₉)), (a_shape, .inl (cT 1, 12, .inr (.inl k_shape₉))), (a_p1, .inr (0, [.int k_p1_width, .int k_p1_height, .int k_p1_barges, .long k_p1_walls, .long k_p1_taken, .ref a_p1_kind, .ref a_p1_place, .ref a_p1_length, .ref a_p1_gate, .ref a_p1_across, .ref a_p1_wide, .ref a_p1_high, .ref a_p1_shape])), (a_p1_kind, .inl (cT 0, 12, .inl k_p1_kind)), (a_p1_place, .inl (cT 0, 12, .inl k_p1_place)), (a_p1_length, .inl (cT 0, 12, .inl k_p1_length)), (a_p1_gate, .inl (cT 0, 12, .inl k_p1_gate)), (a_p1_across, .inl (cT 2, 12, .inl k_p1_across)), (a_p1_wide, .inl (cT 0, 12, .inl k_p1_wide)), (a_p1_high, .inl (cT 0, 12, .inl k_p1_high)), (a_p1_shape, .inl (cT 1, 12, .inr (.inl k_p1_shape)))]) (va_A [(a_t, .inr (0, [.int k_width, .int k_height, .int k_barges, .long k_walls, .long k_taken, .ref a_kind, .ref a_place, .ref a_length, .ref a_gate, .ref a_across, .ref a_wide, .ref a_high, .ref a_shape])), (a_kind, .inl (cT 0, 12, .inl k_kind)), (a_place, .inl (cT 0, 12, .inl k_place)), (a_length, .inl (cT 0, 12, .inl k_length)), (a_gate, .inl (cT 0, 12, .inl k_gate)), (a_across, .inl (cT 2, 12, .inl k_across)), (a_wide, .inl (cT 0, 12, .inl k_wide)), (a_high, .inl (cT 0, 12, .inl k_high)), (a_shape, .inl (cT 1, 12, .inr (.inl k_shape))), (a_p1, .inr (0, [.int k_p1_width, .int k_p1_height, .int k_p1_barges, .long k_p1_walls, .long k_p1_taken, .ref a_p1_kind, .ref a_p1_place, .ref a_p1_length, .ref a_p1_gate, .ref a_p1_across, .ref a_p1_wide, .ref a_p1_high, .ref a_p1_shape])), (a_p1_kind, .inl (cT 0, 12, .inl k_p1_kind)), (a_p1_place, .inl (cT 0, 12, .inl k_p1_place)), (a_p1_length, .inl (cT 0, 12, .inl k_p1_length)), (a_p1_gate, .inl (cT 0, 12, .inl k_p1_gate)), (a_p1_across, .inl (cT 2, 12, .inl k_p1_across)), (a_p1_wide, .inl (cT 0, 12, .inl k_p1_wide)), (a_p1_high, .inl (cT 0, 12, .inl k_p1_high)), (a_p1_shape, .inl (cT 1, 12, .inr (.inl k_p1_shape)))] sz)) 0 0 (va_A [(a_t, .inr (0, [.int k_width, .int k_height, .int k_barges, .long k_walls, .long k_taken, .ref a_kind, .ref a_place, .ref a_length, .ref a_gate, .ref a_across, .ref a_wide, .ref a_high, .ref a_shape])), (a_kind, .inl (cT 0, 12, .inl k_kind)), (a_place, .inl (cT 0, 12, .inl k_place)), (a_length, .inl (cT 0, 12, .inl k_length)), (a_gate, .inl (cT 0, 12, .inl k_gate)), (a_across, .inl (cT 2, 12, .inl k_across)), (a_wide, .inl (cT 0, 12, .inl k_wide)), (a_high, .inl (cT 0, 12, .inl k_high)), (a_shape, .inl (cT 1, 12, .inr (.inl k_shape))), (a_p1, .inr (0, [.int k_p1_width, .int k_p1_height, .int k_p1_barges, .long k_p1_walls, .long k_p1_taken, .ref a_p1_kind, .ref a_p1_place, .ref a_p1_length, .ref a_p1_gate, .ref a_p1_across, .ref a_p1_wide, .ref a_p1_high, .ref a_p1_shape])), (a_p1_kind, .inl (cT 0, 12, .inl k_p1_kind)), (a_p1_place, .inl (cT 0, 12, .inl k_p1_place)), (a_p1_length, .inl (cT 0, 12, .inl k_p1_length)), (a_p1_gate, .inl (cT 0, 12, .inl k_p1_gate)), (a_p1_across, .inl (cT 2, 12, .inl k_p1_across)), (a_p1_wide, .inl (cT 0, 12, .inl k_p1_wide)), (a_p1_high, .inl (cT 0, 12, .inl k_p1_high)), (a_p1_shape, .inl (cT 1, 12, .inr (.inl k_p1_shape)))] sz) := by
  refine Met.ofW (cc := cX0_copyFrom) (maxL := 3) (ret := none) (by decide) rfl ?_
  intro p e s m args below meth c s₁ B hml hv
  obtain ⟨rfl, hsz, hP, hK, hN, hD0⟩ := hv
  have hx := B.exec
  have hb := B.bytes
  have hr := B.returns
  have hts := atoms_spec (ws := wsX0_copyFrom) B.pre
  have hown : s.vm.findClass RX0 = some m.cls := findClass_of_methodNamed B.named
  have hlocks := B.notSynchronized
  subst hsz
  have hD := hD0.self (sz := s.heap.size)
  clear hD0
  generalize hAe : va_A [(a_t, .inr (0, [.int k_width, .int k_height, .int k_barges, .long k_walls, .long k_taken, .ref a_kind, .ref a_place, .ref a_length, .ref a_gate, .ref a_across, .ref a_wide, .ref a_high, .ref a_shape])), (a_kind, .inl (cT 0, 12, .inl k_kind)), (a_place, .inl (cT 0, 12, .inl k_place)), (a_length, .inl (cT 0, 12, .inl k_length)), (a_gate, .inl (cT 0, 12, .inl k_gate)), (a_across, .inl (cT 2, 12, .inl k_across)), (a_wide, .inl (cT 0, 12, .inl k_wide)), (a_high, .inl (cT 0, 12, .inl k_high)), (a_shape, .inl (cT 1, 12, .inr (.inl k_shape))), (a_p1, .inr (0, [.int k_p1_width, .int k_p1_height, .int k_p1_barges, .long k_p1_walls, .long k_p1_taken, .ref a_p1_kind, .ref a_p1_place, .ref a_p1_length, .ref a_p1_gate, .ref a_p1_across, .ref a_p1_wide, .ref a_p1_high, .ref a_p1_shape])), (a_p1_kind, .inl (cT 0, 12, .inl k_p1_kind)), (a_p1_place, .inl (cT 0, 12, .inl k_p1_place)), (a_p1_length, .inl (cT 0, 12, .inl k_p1_length)), (a_p1_gate, .inl (cT 0, 12, .inl k_p1_gate)), (a_p1_across, .inl (cT 2, 12, .inl k_p1_across)), (a_p1_wide, .inl (cT 0, 12, .inl k_p1_wide)), (a_p1_high, .inl (cT 0, 12, .inl k_p1_high)), (a_p1_shape, .inl (cT 1, 12, .inr (.inl k_p1_shape)))] s.heap.size = A at hD ⊢
  have hA : ∀ q : Nat, s.heap.size ≤ q → A q := fun q h => by rw [← hAe]; exact Or.inr h
  clear hAe
  have hl := lv_entry ([.ref a_t, .ref a_p1]) (n := 3) (Nat.le_of_ble_eq_true rfl)
  rw [lg_entry_eq]
  generalize (lg_sl ([.ref a_t, .ref a_p1]) ++ List.replicate (3 - (lg_sl ([.ref a_t, .ref a_p1])).length) Slot.unset).toArray = ls at hl ⊢
  have hl : lv_has ls 3 [(0, .ref a_t), (1, .ref a_p1)] := hl
  refine j_start (A := A) hP (fun H locs hP hS => ?_)
  unfold f_Chart_copyFrom at hf
  refine lv_aload_n hx hb dX0_copyFrom_0 rfl (lv_at hl 0 rfl) ?_
  refine lv_aload_n hx hb dX0_copyFrom_1 rfl (lv_at hl 1 rfl) ?_
  refine va_get (D := D) (ci := 0) (v := .int k_p1_width) (C := RX0) (T := TX0) (N := 13) hx hb hts iw_wsX0_copyFrom_X0 hown hK hP 9 rfl rfl 0 (by decide) (hts (.fieldLink RX0 38 "BargeBasin$Chart" "width" "I") (List.mem_of_getElem? (i := 1) (by decide +kernel))) (fun _ h9 => h9) rfl dX0_copyFrom_2 ?_
  refine va_put (D := D) (ci := 0) (v := .int k_p1_width) (ty := .int) (C := RX0) (T := TX0) (N := 13) hx hb hts iw_wsX0_copyFrom_X0 tyX0 tyX0_ok nmX0 hown hK hP hD hS 0 rfl rfl 0 (by decide) (hts (.fieldLink RX0 38 "BargeBasin$Chart" "width" "I") (List.mem_of_getElem? (i := 1) (by decide +kernel))) (fun _ h9 => h9) rfl (by decide +kernel) rfl rfl (Nat.le_of_ble_eq_true rfl) dX0_copyFrom_5 (fun H locs hP hD hS => ?_)
  replace hP : va_P D vwCl [(a_t, .inr (0, [.int k_p1_width, .int k_height, .int k_barges, .long k_walls, .long k_taken, .ref a_kind, .ref a_place, .ref a_length, .ref a_gate, .ref a_across, .ref a_wide, .ref a_high, .ref a_shape])), (a_kind, .inl (cT 0, 12, .inl k_kind)), (a_place, .inl (cT 0, 12, .inl k_place)), (a_length, .inl (cT 0, 12, .inl k_length)), (a_gate, .inl (cT 0, 12, .inl k_gate)), (a_across, .inl (cT 2, 12, .inl k_across)), (a_wide, .inl (cT 0, 12, .inl k_wide)), (a_high, .inl (cT 0, 12, .inl k_high)), (a_shape, .inl (cT 1, 12, .inr (.inl k_shape))), (a_p1, .inr (0, [.int k_p1_width, .int k_p1_height, .int k_p1_barges, .long k_p1_walls, .long k_p1_taken, .ref a_p1_kind, .ref a_p1_place, .ref a_p1_length, .ref a_p1_gate, .ref a_p1_across, .ref a_p1_wide, .ref a_p1_high, .ref a_p1_shape])), (a_p1_kind, .inl (cT 0, 12, .inl k_p1_kind)), (a_p1_place, .inl (cT 0, 12, .inl k_p1_place)), (a_p1_length, .inl (cT 0, 12, .inl k_p1_length)), (a_p1_gate, .inl (cT 0, 12, .inl k_p1_gate)), (a_p1_across, .inl (cT 2, 12, .inl k_p1_across)), (a_p1_wide, .inl (cT 0, 12, .inl k_p1_wide)), (a_p1_high, .inl (cT 0, 12, .inl k_p1_high)), (a_p1_shape, .inl (cT 1, 12, .inr (.inl k_p1_shape)))] H := hP
  replace hD : va_D A [(a_t, .inr (0, [.int k_p1_width, .int k_height, .int k_barges, .long k_walls, .long k_taken, .ref a_kind, .ref a_place, .ref a_length, .ref a_gate, .ref a_across, .ref a_wide, .ref a_high, .ref a_shape])), (a_kind, .inl (cT 0, 12, .inl k_kind)), (a_place, .inl (cT 0, 12, .inl k_place)), (a_length, .inl (cT 0, 12, .inl k_length)), (a_gate, .inl (cT 0, 12, .inl k_gate)), (a_across, .inl (cT 2, 12, .inl k_across)), (a_wide, .inl (cT 0, 12, .inl k_wide)), (a_high, .inl (cT 0, 12, .inl k_high)), (a_shape, .inl (cT 1, 12, .inr (.inl k_shape))), (a_p1, .inr (0, [.int k_p1_width, .int k_p1_height, .int k_p1_barges, .long k_p1_walls, .long k_p1_taken, .ref a_p1_kind, .ref a_p1_place, .ref a_p1_length, .ref a_p1_gate, .ref a_p1_across, .ref a_p1_wide, .ref a_p1_high, .ref a_p1_shape])), (a_p1_kind, .inl (cT 0, 12, .inl k_p1_kind)), (a_p1_place, .inl (cT 0, 12, .inl k_p1_place)), (a_p1_length, .inl (cT 0, 12, .inl k_p1_length)), (a_p1_gate, .inl (cT 0, 12, .inl k_p1_gate)), (a_p1_across, .inl (cT 2, 12, .inl k_p1_across)), (a_p1_wide, .inl (cT 0, 12, .inl k_p1_wide)), (a_p1_high, .inl (cT 0, 12, .inl k_p1_high)), (a_p1_shape, .inl (cT 1, 12, .inr (.inl k_p1_shape)))] := hD
  refine lv_aload_n hx hb dX0_copyFrom_8 rfl (lv_at hl 0 rfl) ?_
  refine lv_aload_n hx hb dX0_copyFrom_9 rfl (lv_at hl 1 rfl) ?_
  refine va_get (D := D) (ci := 0) (v := .int k_p1_height) (C := RX0) (T := TX0) (N := 13) hx hb hts iw_wsX0_copyFrom_X0 hown hK hP 9 rfl rfl 1 (by decide) (hts (.fieldLink RX0 42 "BargeBasin$Chart" "height" "I") (List.mem_of_getElem? (i := 2) (by decide +kernel))) (fun _ h9 => h9) rfl dX0_copyFrom_10 ?_
  refine va_put (D := D) (ci := 0) (v := .int k_p1_height) (ty := .int) (C := RX0) (T := TX0) (N := 13) hx hb hts iw_wsX0_copyFrom_X0 tyX0 tyX0_ok nmX0 hown hK hP hD hS 0 rfl rfl 1 (by decide) (hts (.fieldLink RX0 42 "BargeBasin$Chart" "height" "I") (List.mem_of_getElem? (i := 2) (by decide +kernel))) (fun _ h9 => h9) rfl (by decide +kernel) rfl rfl (Nat.le_of_ble_eq_true rfl) dX0_copyFrom_13 (fun H locs hP hD hS => ?_)
  replace hP : va_P D vwCl [(a_t, .inr (0, [.int k_p1_width, .int k_p1_height, .int k_barges, .long k_walls, .long k_taken, .ref a_kind, .ref a_place, .ref a_length, .ref a_gate, .ref a_across, .ref a_wide, .ref a_high, .ref a_shape])), (a_kind, .inl (cT 0, 12, .inl k_kind)), (a_place, .inl (cT 0, 12, .inl k_place)), (a_length, .inl (cT 0, 12, .inl k_length)), (a_gate, .inl (cT 0, 12, .inl k_gate)), (a_across, .inl (cT 2, 12, .inl k_across)), (a_wide, .inl (cT 0, 12, .inl k_wide)), (a_high, .inl (cT 0, 12, .inl k_high)), (a_shape, .inl (cT 1, 12, .inr (.inl k_shape))), (a_p1, .inr (0, [.int k_p1_width, .int k_p1_height, .int k_p1_barges, .long k_p1_walls, .long k_p1_taken, .ref a_p1_kind, .ref a_p1_place, .ref a_p1_length, .ref a_p1_gate, .ref a_p1_across, .ref a_p1_wide, .ref a_p1_high, .ref a_p1_shape])), (a_p1_kind, .inl (cT 0, 12, .inl k_p1_kind)), (a_p1_place, .inl (cT 0, 12, .inl k_p1_place)), (a_p1_length, .inl (cT 0, 12, .inl k_p1_length)), (a_p1_gate, .inl (cT 0, 12, .inl k_p1_gate)), (a_p1_across, .inl (cT 2, 12, .inl k_p1_across)), (a_p1_wide, .inl (cT 0, 12, .inl k_p1_wide)), (a_p1_high, .inl (cT 0, 12, .inl k_p1_high)), (a_p1_shape, .inl (cT 1, 12, .inr (.inl k_p1_shape)))] H := hP
  replace hD : va_D A [(a_t, .inr (0, [.int k_p1_width, .int k_p1_height, .int k_barges, .long k_walls, .long k_taken, .ref a_kind, .ref a_place, .ref a_length, .ref a_gate, .ref a_across, .ref a_wide, .ref a_high, .ref a_shape])), (a_kind, .inl (cT 0, 12, .inl k_kind)), (a_place, .inl (cT 0, 12, .inl k_place)), (a_length, .inl (cT 0, 12, .inl k_length)), (a_gate, .inl (cT 0, 12, .inl k_gate)), (a_across, .inl (cT 2, 12, .inl k_across)), (a_wide, .inl (cT 0, 12, .inl k_wide)), (a_high, .inl (cT 0, 12, .inl k_high)), (a_shape, .inl (cT 1, 12, .inr (.inl k_shape))), (a_p1, .inr (0, [.int k_p1_width, .int k_p1_height, .int k_p1_barges, .long k_p1_walls, .long k_p1_taken, .ref a_p1_kind, .ref a_p1_place, .ref a_p1_length, .ref a_p1_gate, .ref a_p1_across, .ref a_p1_wide, .ref a_p1_high, .ref a_p1_shape])), (a_p1_kind, .inl (cT 0, 12, .inl k_p1_kind)), (a_p1_place, .inl (cT 0, 12, .inl k_p1_place)), (a_p1_length, .inl (cT 0, 12, .inl k_p1_length)), (a_p1_gate, .inl (cT 0, 12, .inl k_p1_gate)), (a_p1_across, .inl (cT 2, 12, .inl k_p1_across)), (a_p1_wide, .inl (cT 0, 12, .inl k_p1_wide)), (a_p1_high, .inl (cT 0, 12, .inl k_p1_high)), (a_p1_shape, .inl (cT 1, 12, .inr (.inl k_p1_shape)))] := hD
  refine lv_aload_n hx hb dX0_copyFrom_16 rfl (lv_at hl 0 rfl) ?_
  refine lv_aload_n hx hb dX0_copyFrom_17 rfl (lv_at hl 1 rfl) ?_
  refine va_get (D := D) (ci := 0) (v := .int k_p1_barges) (C := RX0) (T := TX0) (N := 13) hx hb hts iw_wsX0_copyFrom_X0 hown hK hP 9 rfl rfl 2 (by decide) (hts (.fieldLink RX0 52 "BargeBasin$Chart" "barges" "I") (List.mem_of_getElem? (i := 3) (by decide +kernel))) (fun _ h9 => h9) rfl dX0_copyFrom_18 ?_
  refine va_put (D := D) (ci := 0) (v := .int k_p1_barges) (ty := .int) (C := RX0) (T := TX0) (N := 13) hx hb hts iw_wsX0_copyFrom_X0 tyX0 tyX0_ok nmX0 hown hK hP hD hS 0 rfl rfl 2 (by decide) (hts (.fieldLink RX0 52 "BargeBasin$Chart" "barges" "I") (List.mem_of_getElem? (i := 3) (by decide +kernel))) (fun _ h9 => h9) rfl (by decide +kernel) rfl rfl (Nat.le_of_ble_eq_true rfl) dX0_copyFrom_21 (fun H locs hP hD hS => ?_)
  replace hP : va_P D vwCl [(a_t, .inr (0, [.int k_p1_width, .int k_p1_height, .int k_p1_barges, .long k_walls, .long k_taken, .ref a_kind, .ref a_place, .ref a_length, .ref a_gate, .ref a_across, .ref a_wide, .ref a_high, .ref a_shape])), (a_kind, .inl (cT 0, 12, .inl k_kind)), (a_place, .inl (cT 0, 12, .inl k_place)), (a_length, .inl (cT 0, 12, .inl k_length)), (a_gate, .inl (cT 0, 12, .inl k_gate)), (a_across, .inl (cT 2, 12, .inl k_across)), (a_wide, .inl (cT 0, 12, .inl k_wide)), (a_high, .inl (cT 0, 12, .inl k_high)), (a_shape, .inl (cT 1, 12, .inr (.inl k_shape))), (a_p1, .inr (0, [.int k_p1_width, .int k_p1_height, .int k_p1_barges, .long k_p1_walls, .long k_p1_taken, .ref a_p1_kind, .ref a_p1_place, .ref a_p1_length, .ref a_p1_gate, .ref a_p1_across, .ref a_p1_wide, .ref a_p1_high, .ref a_p1_shape])), (a_p1_kind, .inl (cT 0, 12, .inl k_p1_kind)), (a_p1_place, .inl (cT 0, 12, .inl k_p1_place)), (a_p1_length, .inl (cT 0, 12, .inl k_p1_length)), (a_p1_gate, .inl (cT 0, 12, .inl k_p1_gate)), (a_p1_across, .inl (cT 2, 12, .inl k_p1_across)), (a_p1_wide, .inl (cT 0, 12, .inl k_p1_wide)), (a_p1_high, .inl (cT 0, 12, .inl k_p1_high)), (a_p1_shape, .inl (cT 1, 12, .inr (.inl k_p1_shape)))] H := hP
  replace hD : va_D A [(a_t, .inr (0, [.int k_p1_width, .int k_p1_height, .int k_p1_barges, .long k_walls, .long k_taken, .ref a_kind, .ref a_place, .ref a_length, .ref a_gate, .ref a_across, .ref a_wide, .ref a_high, .ref a_shape])), (a_kind, .inl (cT 0, 12, .inl k_kind)), (a_place, .inl (cT 0, 12, .inl k_place)), (a_length, .inl (cT 0, 12, .inl k_length)), (a_gate, .inl (cT 0, 12, .inl k_gate)), (a_across, .inl (cT 2, 12, .inl k_across)), (a_wide, .inl (cT 0, 12, .inl k_wide)), (a_high, .inl (cT 0, 12, .inl k_high)), (a_shape, .inl (cT 1, 12, .inr (.inl k_shape))), (a_p1, .inr (0, [.int k_p1_width, .int k_p1_height, .int k_p1_barges, .long k_p1_walls, .long k_p1_taken, .ref a_p1_kind, .ref a_p1_place, .ref a_p1_length, .ref a_p1_gate, .ref a_p1_across, .ref a_p1_wide, .ref a_p1_high, .ref a_p1_shape])), (a_p1_kind, .inl (cT 0, 12, .inl k_p1_kind)), (a_p1_place, .inl (cT 0, 12, .inl k_p1_place)), (a_p1_length, .inl (cT 0, 12, .inl k_p1_length)), (a_p1_gate, .inl (cT 0, 12, .inl k_p1_gate)), (a_p1_across, .inl (cT 2, 12, .inl k_p1_across)), (a_p1_wide, .inl (cT 0, 12, .inl k_p1_wide)), (a_p1_high, .inl (cT 0, 12, .inl k_p1_high)), (a_p1_shape, .inl (cT 1, 12, .inr (.inl k_p1_shape)))] := hD
  refine lv_aload_n hx hb dX0_copyFrom_24 rfl (lv_at hl 0 rfl) ?_
  refine lv_aload_n hx hb dX0_copyFrom_25 rfl (lv_at hl 1 rfl) ?_
  refine va_get (D := D) (ci := 0) (v := .long k_p1_walls) (C := RX0) (T := TX0) (N := 13) hx hb hts iw_wsX0_copyFrom_X0 hown hK hP 9 rfl rfl 3 (by decide) (hts (.fieldLink RX0 45 "BargeBasin$Chart" "walls" "J") (List.mem_of_getElem? (i := 4) (by decide +kernel))) (fun _ h9 => h9) rfl dX0_copyFrom_26 ?_
  refine va_put (D := D) (ci := 0) (v := .long k_p1_walls) (ty := .long) (C := RX0) (T := TX0) (N := 13) hx hb hts iw_wsX0_copyFrom_X0 tyX0 tyX0_ok nmX0 hown hK hP hD hS 0 rfl rfl 3 (by decide) (hts (.fieldLink RX0 45 "BargeBasin$Chart" "walls" "J") (List.mem_of_getElem? (i := 4) (by decide +kernel))) (fun _ h9 => h9) rfl (by decide +kernel) rfl rfl (Nat.le_of_ble_eq_true rfl) dX0_copyFrom_29 (fun H locs hP hD hS => ?_)
  replace hP : va_P D vwCl [(a_t, .inr (0, [.int k_p1_width, .int k_p1_height, .int k_p1_barges, .long k_p1_walls, .long k_taken, .ref a_kind, .ref a_place, .ref a_length, .ref a_gate, .ref a_across, .ref a_wide, .ref a_high, .ref a_shape])), (a_kind, .inl (cT 0, 12, .inl k_kind)), (a_place, .inl (cT 0, 12, .inl k_place)), (a_length, .inl (cT 0, 12, .inl k_length)), (a_gate, .inl (cT 0, 12, .inl k_gate)), (a_across, .inl (cT 2, 12, .inl k_across)), (a_wide, .inl (cT 0, 12, .inl k_wide)), (a_high, .inl (cT 0, 12, .inl k_high)), (a_shape, .inl (cT 1, 12, .inr (.inl k_shape))), (a_p1, .inr (0, [.int k_p1_width, .int k_p1_height, .int k_p1_barges, .long k_p1_walls, .long k_p1_taken, .ref a_p1_kind, .ref a_p1_place, .ref a_p1_length, .ref a_p1_gate, .ref a_p1_across, .ref a_p1_wide, .ref a_p1_high, .ref a_p1_shape])), (a_p1_kind, .inl (cT 0, 12, .inl k_p1_kind)), (a_p1_place, .inl (cT 0, 12, .inl k_p1_place)), (a_p1_length, .inl (cT 0, 12, .inl k_p1_length)), (a_p1_gate, .inl (cT 0, 12, .inl k_p1_gate)), (a_p1_across, .inl (cT 2, 12, .inl k_p1_across)), (a_p1_wide, .inl (cT 0, 12, .inl k_p1_wide)), (a_p1_high, .inl (cT 0, 12, .inl k_p1_high)), (a_p1_shape, .inl (cT 1, 12, .inr (.inl k_p1_shape)))] H := hP
  replace hD : va_D A [(a_t, .inr (0, [.int k_p1_width, .int k_p1_height, .int k_p1_barges, .long k_p1_walls, .long k_taken, .ref a_kind, .ref a_place, .ref a_length, .ref a_gate, .ref a_across, .ref a_wide, .ref a_high, .ref a_shape])), (a_kind, .inl (cT 0, 12, .inl k_kind)), (a_place, .inl (cT 0, 12, .inl k_place)), (a_length, .inl (cT 0, 12, .inl k_length)), (a_gate, .inl (cT 0, 12, .inl k_gate)), (a_across, .inl (cT 2, 12, .inl k_across)), (a_wide, .inl (cT 0, 12, .inl k_wide)), (a_high, .inl (cT 0, 12, .inl k_high)), (a_shape, .inl (cT 1, 12, .inr (.inl k_shape))), (a_p1, .inr (0, [.int k_p1_width, .int k_p1_height, .int k_p1_barges, .long k_p1_walls, .long k_p1_taken, .ref a_p1_kind, .ref a_p1_place, .ref a_p1_length, .ref a_p1_gate, .ref a_p1_across, .ref a_p1_wide, .ref a_p1_high, .ref a_p1_shape])), (a_p1_kind, .inl (cT 0, 12, .inl k_p1_kind)), (a_p1_place, .inl (cT 0, 12, .inl k_p1_place)), (a_p1_length, .inl (cT 0, 12, .inl k_p1_length)), (a_p1_gate, .inl (cT 0, 12, .inl k_p1_gate)), (a_p1_across, .inl (cT 2, 12, .inl k_p1_across)), (a_p1_wide, .inl (cT 0, 12, .inl k_p1_wide)), (a_p1_high, .inl (cT 0, 12, .inl k_p1_high)), (a_p1_shape, .inl (cT 1, 12, .inr (.inl k_p1_shape)))] := hD
  refine lv_aload_n hx hb dX0_copyFrom_32 rfl (lv_at hl 0 rfl) ?_
  refine lv_aload_n hx hb dX0_copyFrom_33 rfl (lv_at hl 1 rfl) ?_
  refine va_get (D := D) (ci := 0) (v := .long k_p1_taken) (C := RX0) (T := TX0) (N := 13) hx hb hts iw_wsX0_copyFrom_X0 hown hK hP 9 rfl rfl 4 (by decide) (hts (.fieldLink RX0 55 "BargeBasin$Chart" "taken" "J") (List.mem_of_getElem? (i := 5) (by decide +kernel))) (fun _ h9 => h9) rfl dX0_copyFrom_34 ?_
  refine va_put (D := D) (ci := 0) (v := .long k_p1_taken) (ty := .long) (C := RX0) (T := TX0) (N := 13) hx hb hts iw_wsX0_copyFrom_X0 tyX0 tyX0_ok nmX0 hown hK hP hD hS 0 rfl rfl 4 (by decide) (hts (.fieldLink RX0 55 "BargeBasin$Chart" "taken" "J") (List.mem_of_getElem? (i := 5) (by decide +kernel))) (fun _ h9 => h9) rfl (by decide +kernel) rfl rfl (Nat.le_of_ble_eq_true rfl) dX0_copyFrom_37 (fun H locs hP hD hS => ?_)
  replace hP : va_P D vwCl [(a_t, .inr (0, [.int k_p1_width, .int k_p1_height, .int k_p1_barges, .long k_p1_walls, .long k_p1_taken, .ref a_kind, .ref a_place, .ref a_length, .ref a_gate, .ref a_across, .ref a_wide, .ref a_high, .ref a_shape])), (a_kind, .inl (cT 0, 12, .inl k_kind)), (a_place, .inl (cT 0, 12, .inl k_place)), (a_length, .inl (cT 0, 12, .inl k_length)), (a_gate, .inl (cT 0, 12, .inl k_gate)), (a_across, .inl (cT 2, 12, .inl k_across)), (a_wide, .inl (cT 0, 12, .inl k_wide)), (a_high, .inl (cT 0, 12, .inl k_high)), (a_shape, .inl (cT 1, 12, .inr (.inl k_shape))), (a_p1, .inr (0, [.int k_p1_width, .int k_p1_height, .int k_p1_barges, .long k_p1_walls, .long k_p1_taken, .ref a_p1_kind, .ref a_p1_place, .ref a_p1_length, .ref a_p1_gate, .ref a_p1_across, .ref a_p1_wide, .ref a_p1_high, .ref a_p1_shape])), (a_p1_kind, .inl (cT 0, 12, .inl k_p1_kind)), (a_p1_place, .inl (cT 0, 12, .inl k_p1_place)), (a_p1_length, .inl (cT 0, 12, .inl k_p1_length)), (a_p1_gate, .inl (cT 0, 12, .inl k_p1_gate)), (a_p1_across, .inl (cT 2, 12, .inl k_p1_across)), (a_p1_wide, .inl (cT 0, 12, .inl k_p1_wide)), (a_p1_high, .inl (cT 0, 12, .inl k_p1_high)), (a_p1_shape, .inl (cT 1, 12, .inr (.inl k_p1_shape)))] H := hP
  replace hD : va_D A [(a_t, .inr (0, [.int k_p1_width, .int k_p1_height, .int k_p1_barges, .long k_p1_walls, .long k_p1_taken, .ref a_kind, .ref a_place, .ref a_length, .ref a_gate, .ref a_across, .ref a_wide, .ref a_high, .ref a_shape])), (a_kind, .inl (cT 0, 12, .inl k_kind)), (a_place, .inl (cT 0, 12, .inl k_place)), (a_length, .inl (cT 0, 12, .inl k_length)), (a_gate, .inl (cT 0, 12, .inl k_gate)), (a_across, .inl (cT 2, 12, .inl k_across)), (a_wide, .inl (cT 0, 12, .inl k_wide)), (a_high, .inl (cT 0, 12, .inl k_high)), (a_shape, .inl (cT 1, 12, .inr (.inl k_shape))), (a_p1, .inr (0, [.int k_p1_width, .int k_p1_height, .int k_p1_barges, .long k_p1_walls, .long k_p1_taken, .ref a_p1_kind, .ref a_p1_place, .ref a_p1_length, .ref a_p1_gate, .ref a_p1_across, .ref a_p1_wide, .ref a_p1_high, .ref a_p1_shape])), (a_p1_kind, .inl (cT 0, 12, .inl k_p1_kind)), (a_p1_place, .inl (cT 0, 12, .inl k_p1_place)), (a_p1_length, .inl (cT 0, 12, .inl k_p1_length)), (a_p1_gate, .inl (cT 0, 12, .inl k_p1_gate)), (a_p1_across, .inl (cT 2, 12, .inl k_p1_across)), (a_p1_wide, .inl (cT 0, 12, .inl k_p1_wide)), (a_p1_high, .inl (cT 0, 12, .inl k_p1_high)), (a_p1_shape, .inl (cT 1, 12, .inr (.inl k_p1_shape)))] := hD
  refine lv_iconst (v := 0) hx hb dX0_copyFrom_40 (by decide) ?_
  refine lv_istore_n (lv' := [(2, .int ((0 : Int32))), (0, .ref a_t), (1, .ref a_p1)]) hx hb dX0_copyFrom_41 rfl hl (by decide) rfl (fun ls hl => ?_)
  replace hf := ob_b hf
  obtain ⟨ex_21, hq_22, hf⟩ := hf
  refine l_f_Chart_copyFrom_L42 hx hb hml hown hts hK hN hA jN _ _ _ _ _ _ _ _ _ ex_21 hq_22 _ _ hP hD hS ls (lv_sub hl [1, 2, 0] rfl) (fun k_kind_23 k_place_24 k_length_25 k_gate_26 k_across_27 k_wide_28 k_high_29 k_shape_30 ee_31 H locs hP hD hS ls hl => ?_)
  subst ee_31
  replace hf := ob_un8 hf
  replace hf := ob_t13 hf
  obtain ⟨ee0, ee1, ee2, ee3, ee4, ee5, ee6, ee7, ee8, ee9, ee10, ee11, ee12⟩ := hf
  subst ee0
  subst ee1
  subst ee2
  subst ee3
  subst ee4
  subst ee5
  subst ee6
  subst ee7
  subst ee8
  subst ee9
  subst ee10
  subst ee11
  subst ee12
  exact W.vret hx hb hr (fun t ht hW => ⟨⟨(), rfl, trivial, by rw [ht]; exact hP, va_K.moved hW.alike hK, hD⟩, hS.F ht⟩) hS.2.2 dX0_copyFrom_63
theorem iw_wsX0_wallRow_X0 : ∀ w ∈ wsX00, w ∈ wsX0_wallRow := fun _ h => List.mem_cons_of_mem _ (List.mem_append_right _ h)
abbrev rm_Chart_wallRow : Room := { frames := 0, cells := 0, slots := 0, locals := 0 }
set_option maxHeartbeats 4000000 in
set_option maxRecDepth 100000 in
theorem c_f_Chart_wallRow (l : Launch) (D : va_G) (cT : Nat → ClassId) (sz : Nat) (a_t a_kind a_place a_length a_gate a_across a_wide a_high a_shape : Nat) (k_width : Int32) (k_height : Int32) (k_barges : Int32) (k_walls : Int64) (k_taken : Int64) (v1 : Int32) (v2 : Int32) (k_walls₉ : Int64) (hf : f_Chart_wallRow v1 v2 k_walls = some k_walls₉) : Met l yX0_wallRow wsX0_wallRow rm_Chart_wallRow (va_Pc [.ref a_t, .int v1, .int v2] (fun U => U.heap.size = sz ∧ va_P D vwCl [(a_t, .inr (0, [.int k_width, .int k_height, .int k_barges, .long k_walls, .long k_taken, .ref a_kind, .ref a_place, .ref a_length, .ref a_gate, .ref a_across, .ref a_wide, .ref a_high, .ref a_shape]))] U.heap ∧ va_K D vwCl (jT cT) U ∧ jNw U ∧ va_D (fun _ => True) [(a_t, .inr (0, [.int k_width, .int k_height, .int k_barges, .long k_walls, .long k_taken, .ref a_kind, .ref a_place, .ref a_length, .ref a_gate, .ref a_across, .ref a_wide, .ref a_high, .ref a_shape]))])) (va_Qv (fun _ : Unit => True) (fun (_ : Unit) t => va_P D vwCl [(a_t, .inr (0, [.int k_width, .int k_height, .int k_barges, .long k_walls₉, .long k_taken, .ref a_kind, .ref a_place, .ref a_length, .ref a_gate, .ref a_across, .ref a_wide, .ref a_high, .ref a_shape]))] t.heap ∧ va_K D vwCl (jT cT) t ∧ va_D (va_A [(a_t, .inr (0, [.int k_width, .int k_height, .int k_barges, .long k_walls, .long k_taken, .ref a_kind, .ref a_place, .ref a_length, .ref a_gate, .ref a_across, .ref a_wide, .ref a_high, .ref a_shape]))] sz) [(a_t, .inr (0, [.int k_width, .int k_height, .int k_barges, .long k_walls₉, .long k_taken, .ref a_kind, .ref a_place, .ref a_length, .ref a_gate, .ref a_across, .ref a_wide, .ref a_high, .ref a_shape]))]) (va_A [(a_t, .inr (0, [.int k_width, .int k_height, .int k_barges, .long k_walls, .long k_taken, .ref a_kind, .ref a_place, .ref a_length, .ref a_gate, .ref a_across, .ref a_wide, .ref a_high, .ref a_shape]))] sz)) 0 0 (va_A [(a_t, .inr (0, [.int k_width, .int k_height, .int k_barges, .long k_walls, .long k_taken, .ref a_kind, .ref a_place, .ref a_length, .ref a_gate, .ref a_across, .ref a_wide, .ref a_high, .ref a_shape]))] sz) := by
  refine Met.ofW (cc := cX0_wallRow) (maxL := 3) (ret := none) (by decide) rfl ?_
  intro p e s m args below meth c s₁ B hml hv
  obtain ⟨rfl, hsz, hP, hK, hN, hD0⟩ := hv
  have hx := B.exec
  have hb := B.bytes
  have hr := B.returns
  have hts := atoms_spec (ws := wsX0_wallRow) B.pre
  have hown : s.vm.findClass RX0 = some m.cls := findClass_of_methodNamed B.named
  have hlocks := B.notSynchronized
  subst hsz
  have hD := hD0.self (sz := s.heap.size)
  clear hD0
  generalize hAe : va_A [(a_t, .inr (0, [.int k_width, .int k_height, .int k_barges, .long k_walls, .long k_taken, .ref a_kind, .ref a_place, .ref a_length, .ref a_gate, .ref a_across, .ref a_wide, .ref a_high, .ref a_shape]))] s.heap.size = A at hD ⊢
  have hA : ∀ q : Nat, s.heap.size ≤ q → A q := fun q h => by rw [← hAe]; exact Or.inr h
  clear hAe
  have hl := lv_entry ([.ref a_t, .int v1, .int v2]) (n := 3) (Nat.le_of_ble_eq_true rfl)
  rw [lg_entry_eq]
  generalize (lg_sl ([.ref a_t, .int v1, .int v2]) ++ List.replicate (3 - (lg_sl ([.ref a_t, .int v1, .int v2])).length) Slot.unset).toArray = ls at hl ⊢
  have hl : lv_has ls 3 [(0, .ref a_t), (1, .int v1), (2, .int v2)] := hl
  refine j_start (A := A) hP (fun H locs hP hS => ?_)
  unfold f_Chart_wallRow at hf
  refine lv_aload_n hx hb dX0_wallRow_0 rfl (lv_at hl 0 rfl) ?_
  refine lv_aload_n hx hb dX0_wallRow_1 rfl (lv_at hl 0 rfl) ?_
  refine va_get (D := D) (ci := 0) (v := .long k_walls) (C := RX0) (T := TX0) (N := 13) hx hb hts iw_wsX0_wallRow_X0 hown hK hP 0 rfl rfl 3 (by decide) (hts (.fieldLink RX0 45 "BargeBasin$Chart" "walls" "J") (List.mem_of_getElem? (i := 1) (by decide +kernel))) (fun _ h9 => h9) rfl dX0_wallRow_2 ?_
  refine lv_ldc2 hx hb hown (hts (.constantLong RX0 62 (255)) (List.mem_of_getElem? (i := 2) (by decide +kernel))) dX0_wallRow_5 ?_
  refine lv_bipush (v := 8) hx hb dX0_wallRow_8 (by decide) ?_
  refine lv_iload_n hx hb dX0_wallRow_10 rfl (lv_at hl 1 rfl) ?_
  refine lv_imul hx hb dX0_wallRow_11 ?_
  refine lv_lshl hx hb dX0_wallRow_12 rfl ?_
  refine lv_ldc2 hx hb hown (hts (.constantLong RX0 64 (-1)) (List.mem_of_getElem? (i := 3) (by decide +kernel))) dX0_wallRow_13 ?_
  refine lv_lxor hx hb dX0_wallRow_16 ?_
  refine lv_land hx hb dX0_wallRow_17 ?_
  refine lv_iload_n hx hb dX0_wallRow_18 rfl (lv_at hl 2 rfl) ?_
  refine lv_i2l hx hb dX0_wallRow_19 rfl ?_
  refine lv_bipush (v := 8) hx hb dX0_wallRow_20 (by decide) ?_
  refine lv_iload_n hx hb dX0_wallRow_22 rfl (lv_at hl 1 rfl) ?_
  refine lv_imul hx hb dX0_wallRow_23 ?_
  refine lv_lshl hx hb dX0_wallRow_24 rfl ?_
  refine lv_lor hx hb dX0_wallRow_25 ?_
  refine lv_topl (fun w_1 ew_1 => ?_)
  replace hf := ob_nm ew_1 hf
  refine va_put (D := D) (ci := 0) (v := .long w_1) (ty := .long) (C := RX0) (T := TX0) (N := 13) hx hb hts iw_wsX0_wallRow_X0 tyX0 tyX0_ok nmX0 hown hK hP hD hS 0 rfl rfl 3 (by decide) (hts (.fieldLink RX0 45 "BargeBasin$Chart" "walls" "J") (List.mem_of_getElem? (i := 1) (by decide +kernel))) (fun _ h9 => h9) rfl (by decide +kernel) rfl rfl (Nat.le_of_ble_eq_true rfl) dX0_wallRow_26 (fun H locs hP hD hS => ?_)
  replace hP : va_P D vwCl [(a_t, .inr (0, [.int k_width, .int k_height, .int k_barges, .long w_1, .long k_taken, .ref a_kind, .ref a_place, .ref a_length, .ref a_gate, .ref a_across, .ref a_wide, .ref a_high, .ref a_shape]))] H := hP
  replace hD : va_D A [(a_t, .inr (0, [.int k_width, .int k_height, .int k_barges, .long w_1, .long k_taken, .ref a_kind, .ref a_place, .ref a_length, .ref a_gate, .ref a_across, .ref a_wide, .ref a_high, .ref a_shape]))] := hD
  cases hf
  exact W.vret hx hb hr (fun t ht hW => ⟨⟨(), rfl, trivial, by rw [ht]; exact hP, va_K.moved hW.alike hK, hD⟩, hS.F ht⟩) hS.2.2 dX0_wallRow_29
theorem iw_wsX0_isWall_X0 : ∀ w ∈ wsX00, w ∈ wsX0_isWall := fun _ h => List.mem_cons_of_mem _ (List.mem_append_right _ h)
abbrev rm_Chart_isWall : Room := { frames := 0, cells := 0, slots := 0, locals := 0 }
set_option maxHeartbeats 4000000 in
set_option maxRecDepth 100000 in
theorem c_f_Chart_isWall (l : Launch) (D : va_G) (cT : Nat → ClassId) (a_t a_kind a_place a_length a_gate a_across a_wide a_high a_shape : Nat) (k_width : Int32) (k_height : Int32) (k_barges : Int32) (k_walls : Int64) (k_taken : Int64) (v1 : Int32) (v2 : Int32) (r0 : Int32) (hf : f_Chart_isWall v1 v2 k_walls = some r0) : Met l yX0_isWall wsX0_isWall rm_Chart_isWall (va_Pc [.ref a_t, .int v1, .int v2] (fun U => va_P D vwCl [(a_t, .inr (0, [.int k_width, .int k_height, .int k_barges, .long k_walls, .long k_taken, .ref a_kind, .ref a_place, .ref a_length, .ref a_gate, .ref a_across, .ref a_wide, .ref a_high, .ref a_shape]))] U.heap ∧ va_K D vwCl (jT cT) U ∧ jNw U)) (vp_Si (fun r => r = r0)) 0 0 (fun _ => False) := by
  refine Met.ofW (cc := cX0_isWall) (maxL := 3) (ret := (some .boolean)) (by decide) rfl ?_
  intro p e s m args below meth c s₁ B hml hv
  obtain ⟨rfl, hP, hK, hN⟩ := hv
  have hx := B.exec
  have hb := B.bytes
  have hr := B.returns
  have hts := atoms_spec (ws := wsX0_isWall) B.pre
  have hown : s.vm.findClass RX0 = some m.cls := findClass_of_methodNamed B.named
  have hlocks := B.notSynchronized
  have hl := lv_entry ([.ref a_t, .int v1, .int v2]) (n := 3) (Nat.le_of_ble_eq_true rfl)
  rw [lg_entry_eq]
  generalize (lg_sl ([.ref a_t, .int v1, .int v2]) ++ List.replicate (3 - (lg_sl ([.ref a_t, .int v1, .int v2])).length) Slot.unset).toArray = ls at hl ⊢
  have hl : lv_has ls 3 [(0, .ref a_t), (1, .int v1), (2, .int v2)] := hl
  unfold f_Chart_isWall at hf
  refine lv_aload_n hx hb dX0_isWall_0 rfl (lv_at hl 0 rfl) ?_
  refine va_get (D := D) (ci := 0) (v := .long k_walls) (C := RX0) (T := TX0) (N := 13) hx hb hts iw_wsX0_isWall_X0 hown hK hP 0 rfl rfl 3 (by decide) (hts (.fieldLink RX0 45 "BargeBasin$Chart" "walls" "J") (List.mem_of_getElem? (i := 1) (by decide +kernel))) (fun _ h9 => h9) rfl dX0_isWall_1 ?_
  refine lv_bipush (v := 8) hx hb dX0_isWall_4 (by decide) ?_
  refine lv_iload_n hx hb dX0_isWall_6 rfl (lv_at hl 2 rfl) ?_
  refine lv_imul hx hb dX0_isWall_7 ?_
  refine lv_iload_n hx hb dX0_isWall_8 rfl (lv_at hl 1 rfl) ?_
  refine lv_iadd hx hb dX0_isWall_9 ?_
  refine lv_lushr hx hb dX0_isWall_10 rfl ?_
  refine lv_lconst (v := 1) hx hb dX0_isWall_11 (by decide) ?_
  refine lv_land hx hb dX0_isWall_12 ?_
  refine lv_lconst (v := 0) hx hb dX0_isWall_13 (by decide) ?_
  refine W.lcmp hx hb dX0_isWall_14 ?_
  refine lv_if_eq (tgt := 22) hx hb dX0_isWall_15 (by decide) (fun c_1 => ?_) (fun c_1 => ?_)
  · replace hf := ob_pos c_1 hf
    refine lv_iconst (v := 0) hx hb dX0_isWall_22 (by decide) ?_
    cases hf
    exact W.zret hx hb hr (by decide +kernel) (fun t ht hW => ⟨_, rfl, rfl, ht⟩) (fun q h => by cases h) dX0_isWall_23
  · replace hf := ob_neg c_1 hf
    refine lv_iconst (v := 1) hx hb dX0_isWall_18 (by decide) ?_
    refine lv_goto (tgt := 23) hx hb dX0_isWall_19 (by decide) ?_
    cases hf
    exact W.zret hx hb hr (by decide +kernel) (fun t ht hW => ⟨_, rfl, rfl, ht⟩) (fun q h => by cases h) dX0_isWall_23
theorem iw_wsX0_isTaken_X0 : ∀ w ∈ wsX00, w ∈ wsX0_isTaken := fun _ h => List.mem_cons_of_mem _ (List.mem_append_right _ h)
abbrev rm_Chart_isTaken : Room := { frames := 0, cells := 0, slots := 0, locals := 0 }
set_option maxHeartbeats 4000000 in
set_option maxRecDepth 100000 in
theorem c_f_Chart_isTaken (l : Launch) (D : va_G) (cT : Nat → ClassId) (a_t a_kind a_place a_length a_gate a_across a_wide a_high a_shape : Nat) (k_width : Int32) (k_height : Int32) (k_barges : Int32) (k_walls : Int64) (k_taken : Int64) (v1 : Int32) (v2 : Int32) (r0 : Int32) (hf : f_Chart_isTaken v1 v2 k_width k_taken = some r0) : Met l yX0_isTaken wsX0_isTaken rm_Chart_isTaken (va_Pc [.ref a_t, .int v1, .int v2] (fun U => va_P D vwCl [(a_t, .inr (0, [.int k_width, .int k_height, .int k_barges, .long k_walls, .long k_taken, .ref a_kind, .ref a_place, .ref a_length, .ref a_gate, .ref a_across, .ref a_wide, .ref a_high, .ref a_shape]))] U.heap ∧ va_K D vwCl (jT cT) U ∧ jNw U)) (vp_Si (fun r => r = r0)) 0 0 (fun _ => False) := by
  refine Met.ofW (cc := cX0_isTaken) (maxL := 3) (ret := (some .boolean)) (by decide) rfl ?_
  intro p e s m args below meth c s₁ B hml hv
  obtain ⟨rfl, hP, hK, hN⟩ := hv
  have hx := B.exec
  have hb := B.bytes
  have hr := B.returns
  have hts := atoms_spec (ws := wsX0_isTaken) B.pre
  have hown : s.vm.findClass RX0 = some m.cls := findClass_of_methodNamed B.named
  have hlocks := B.notSynchronized
  have hl := lv_entry ([.ref a_t, .int v1, .int v2]) (n := 3) (Nat.le_of_ble_eq_true rfl)
  rw [lg_entry_eq]
  generalize (lg_sl ([.ref a_t, .int v1, .int v2]) ++ List.replicate (3 - (lg_sl ([.ref a_t, .int v1, .int v2])).length) Slot.unset).toArray = ls at hl ⊢
  have hl : lv_has ls 3 [(0, .ref a_t), (1, .int v1), (2, .int v2)] := hl
  unfold f_Chart_isTaken at hf
  refine lv_iload_n hx hb dX0_isTaken_0 rfl (lv_at hl 1 rfl) ?_
  refine lv_aload_n hx hb dX0_isTaken_1 rfl (lv_at hl 0 rfl) ?_
  refine va_get (D := D) (ci := 0) (v := .int k_width) (C := RX0) (T := TX0) (N := 13) hx hb hts iw_wsX0_isTaken_X0 hown hK hP 0 rfl rfl 0 (by decide) (hts (.fieldLink RX0 38 "BargeBasin$Chart" "width" "I") (List.mem_of_getElem? (i := 1) (by decide +kernel))) (fun _ h9 => h9) rfl dX0_isTaken_2 ?_
  refine lv_icmp_ge (tgt := 30) hx hb dX0_isTaken_5 (by decide) (fun c_1 => ?_) (fun c_1 => ?_)
  · replace hf := ob_pos c_1 hf
    refine lv_iconst (v := 0) hx hb dX0_isTaken_30 (by decide) ?_
    cases hf
    exact W.zret hx hb hr (by decide +kernel) (fun t ht hW => ⟨_, rfl, rfl, ht⟩) (fun q h => by cases h) dX0_isTaken_31
  · replace hf := ob_neg c_1 hf
    refine lv_aload_n hx hb dX0_isTaken_8 rfl (lv_at hl 0 rfl) ?_
    refine va_get (D := D) (ci := 0) (v := .long k_taken) (C := RX0) (T := TX0) (N := 13) hx hb hts iw_wsX0_isTaken_X0 hown hK hP 0 rfl rfl 4 (by decide) (hts (.fieldLink RX0 55 "BargeBasin$Chart" "taken" "J") (List.mem_of_getElem? (i := 2) (by decide +kernel))) (fun _ h9 => h9) rfl dX0_isTaken_9 ?_
    refine lv_bipush (v := 8) hx hb dX0_isTaken_12 (by decide) ?_
    refine lv_iload_n hx hb dX0_isTaken_14 rfl (lv_at hl 2 rfl) ?_
    refine lv_imul hx hb dX0_isTaken_15 ?_
    refine lv_iload_n hx hb dX0_isTaken_16 rfl (lv_at hl 1 rfl) ?_
    refine lv_iadd hx hb dX0_isTaken_17 ?_
    refine lv_lushr hx hb dX0_isTaken_18 rfl ?_
    refine lv_lconst (v := 1) hx hb dX0_isTaken_19 (by decide) ?_
    refine lv_land hx hb dX0_isTaken_20 ?_
    refine lv_lconst (v := 0) hx hb dX0_isTaken_21 (by decide) ?_
    refine W.lcmp hx hb dX0_isTaken_22 ?_
    refine lv_if_eq (tgt := 30) hx hb dX0_isTaken_23 (by decide) (fun c_2 => ?_) (fun c_2 => ?_)
    · replace hf := ob_pos c_2 hf
      refine lv_iconst (v := 0) hx hb dX0_isTaken_30 (by decide) ?_
      cases hf
      exact W.zret hx hb hr (by decide +kernel) (fun t ht hW => ⟨_, rfl, rfl, ht⟩) (fun q h => by cases h) dX0_isTaken_31
    · replace hf := ob_neg c_2 hf
      refine lv_iconst (v := 1) hx hb dX0_isTaken_26 (by decide) ?_
      refine lv_goto (tgt := 31) hx hb dX0_isTaken_27 (by decide) ?_
      cases hf
      exact W.zret hx hb hr (by decide +kernel) (fun t ht hW => ⟨_, rfl, rfl, ht⟩) (fun q h => by cases h) dX0_isTaken_31
theorem iw_wsX0_fieldsOf_X0 : ∀ w ∈ wsX00, w ∈ wsX0_fieldsOf := fun _ h => List.mem_cons_of_mem _ (List.mem_append_right _ h)
abbrev rm_Chart_fieldsOf : Room := { frames := 0, cells := 0, slots := 0, locals := 0 }
set_option maxHeartbeats 4000000 in
set_option maxRecDepth 100000 in
theorem c_f_Chart_fieldsOf (l : Launch) (D : va_G) (cT : Nat → ClassId) (a_t a_kind a_place a_length a_gate a_across a_wide a_high a_shape : Nat) (k_width : Int32) (k_height : Int32) (k_barges : Int32) (k_walls : Int64) (k_taken : Int64) (k_place : Nat → Int32) (k_shape : Nat → Int64) (v1 : Int32) (r0 : Int64) (hf : f_Chart_fieldsOf v1 k_place k_shape = some r0) : Met l yX0_fieldsOf wsX0_fieldsOf rm_Chart_fieldsOf (va_Pc [.ref a_t, .int v1] (fun U => va_P D vwCl [(a_t, .inr (0, [.int k_width, .int k_height, .int k_barges, .long k_walls, .long k_taken, .ref a_kind, .ref a_place, .ref a_length, .ref a_gate, .ref a_across, .ref a_wide, .ref a_high, .ref a_shape])), (a_place, .inl (cT 0, 12, .inl k_place)), (a_shape, .inl (cT 1, 12, .inr (.inl k_shape)))] U.heap ∧ va_K D vwCl (jT cT) U ∧ jNw U)) (vp_Sl (fun r => r = r0)) 0 0 (fun _ => False) := by
  refine Met.ofW (cc := cX0_fieldsOf) (maxL := 2) (ret := (some .long)) (by decide) rfl ?_
  intro p e s m args below meth c s₁ B hml hv
  obtain ⟨rfl, hP, hK, hN⟩ := hv
  have hx := B.exec
  have hb := B.bytes
  have hr := B.returns
  have hts := atoms_spec (ws := wsX0_fieldsOf) B.pre
  have hown : s.vm.findClass RX0 = some m.cls := findClass_of_methodNamed B.named
  have hlocks := B.notSynchronized
  have hl := lv_entry ([.ref a_t, .int v1]) (n := 2) (Nat.le_of_ble_eq_true rfl)
  rw [lg_entry_eq]
  generalize (lg_sl ([.ref a_t, .int v1]) ++ List.replicate (2 - (lg_sl ([.ref a_t, .int v1])).length) Slot.unset).toArray = ls at hl ⊢
  have hl : lv_has ls 2 [(0, .ref a_t), (1, .int v1)] := hl
  unfold f_Chart_fieldsOf at hf
  refine lv_aload_n hx hb dX0_fieldsOf_0 rfl (lv_at hl 0 rfl) ?_
  refine va_get (D := D) (ci := 0) (v := .ref a_shape) (C := RX0) (T := TX0) (N := 13) hx hb hts iw_wsX0_fieldsOf_X0 hown hK hP 0 rfl rfl 12 (by decide) (hts (.fieldLink RX0 34 "BargeBasin$Chart" "shape" "[J") (List.mem_of_getElem? (i := 1) (by decide +kernel))) (fun _ h9 => h9) rfl dX0_fieldsOf_1 ?_
  refine lv_iload_n hx hb dX0_fieldsOf_4 rfl (lv_at hl 1 rfl) ?_
  replace hf := ob_grd hf
  obtain ⟨hi_1, hf⟩ := hf
  refine va_lald hx hb hK hP 2 1 rfl rfl hi_1 dX0_fieldsOf_5 ?_
  refine lv_aload_n hx hb dX0_fieldsOf_6 rfl (lv_at hl 0 rfl) ?_
  refine va_get (D := D) (ci := 0) (v := .ref a_place) (C := RX0) (T := TX0) (N := 13) hx hb hts iw_wsX0_fieldsOf_X0 hown hK hP 0 rfl rfl 6 (by decide) (hts (.fieldLink RX0 15 "BargeBasin$Chart" "place" "[I") (List.mem_of_getElem? (i := 2) (by decide +kernel))) (fun _ h9 => h9) rfl dX0_fieldsOf_7 ?_
  refine lv_iload_n hx hb dX0_fieldsOf_10 rfl (lv_at hl 1 rfl) ?_
  replace hf := ob_grd hf
  obtain ⟨hi_2, hf⟩ := hf
  refine va_iald hx hb hK hP 1 0 rfl rfl hi_2 dX0_fieldsOf_11 ?_
  refine lv_lshl hx hb dX0_fieldsOf_12 rfl ?_
  cases hf
  exact W.lret hx hb hr (fun t ht hW => ⟨_, rfl, rfl, ht⟩) (fun q h => by cases h) dX0_fieldsOf_13
theorem iw_wsX0_firstIn_X0 : ∀ w ∈ wsX00, w ∈ wsX0_firstIn := fun _ h => List.mem_cons_of_mem _ (List.mem_append_right _ h)
abbrev rm_Chart_firstIn : Room := { frames := 1, cells := 0, slots := 0, locals := 21 }
set_option maxHeartbeats 4000000 in
set_option maxRecDepth 100000 in
theorem l_f_Chart_firstIn_L3 {p : Program} {l : Launch} {e : Env} {s : State} {m : MethodId} {args : Array Value} {below : List Frame} {meth : Method} {c : Code} {Q : State → Prop} {D : va_G} {cT : Nat → ClassId} {a_t a_kind a_place a_length a_gate a_across a_wide a_high a_shape : Nat} {k_width : Int32} {k_height : Int32} {k_barges : Int32} {k_walls : Int64} {k_taken : Int64} {k_place : Nat → Int32} {k_shape : Nat → Int64} {v1 : Int64} {v3 : Int32} (hx : p.tables.exec = Jvm.exec) (hb : c.code = cX0_firstIn) (hml : c.maxLocals = 5) (hown : s.vm.findClass RX0 = some m.cls) (hts : ∀ w ∈ wsX0_firstIn, w.before args s = true) (hK : va_K D vwCl (jT cT) s) (hN : jNw s) (hP : va_P D vwCl [(a_t, .inr (0, [.int k_width, .int k_height, .int k_barges, .long k_walls, .long k_taken, .ref a_kind, .ref a_place, .ref a_length, .ref a_gate, .ref a_across, .ref a_wide, .ref a_high, .ref a_shape])), (a_place, .inl (cT 0, 12, .inl k_place)), (a_shape, .inl (cT 1, 12, .inr (.inl k_shape)))] s.heap) : ∀ (n : Nat) (v4 : Int32) (ex : (Int32) ⊕ (Unit)), f_Chart_firstIn_L3 v1 v3 k_barges k_place k_shape n v4 = some ex → ∀ (ls : Array Slot), lv_has ls 5 [(0, .ref a_t), (1, .long v1), (3, .int v3), (4, .int v4)] → (∀ (v4_9 : Int32), ex = .inl v4_9 → ∀ (ls : Array Slot), lv_has ls 5 [(4, .int v4_9)] → W p l e (headSpec wsX0_firstIn rm_Chart_firstIn).room s m args below meth c s.heap [] 0 0 Q (F0 m 31 ls [])) → (ex = .inr (()) → ∀ (ls : Array Slot), lv_has ls 5 [] → W p l e (headSpec wsX0_firstIn rm_Chart_firstIn).room s m args below meth c s.heap [] 0 0 Q (F0 m 40 ls [])) → W p l e (headSpec wsX0_firstIn rm_Chart_firstIn).room s m args below meth c s.heap [] 0 0 Q (F0 m 3 ls []) := by
  intro n
  induction n with
  | zero => intro v4 ex hf; exact (ob_none hf).elim
  | succ n ih =>
    intro v4 ex hf ls hl K0 K1
    rw [f_Chart_firstIn_L3] at hf
    refine lv_iload hx hb dX0_firstIn_3 (lv_at hl 3 rfl) ?_
    refine lv_aload_n hx hb dX0_firstIn_5 rfl (lv_at hl 0 rfl) ?_
    refine va_get (D := D) (ci := 0) (v := .int k_barges) (C := RX0) (T := TX0) (N := 13) hx hb hts iw_wsX0_firstIn_X0 hown hK hP 0 rfl rfl 2 (by decide) (hts (.fieldLink RX0 52 "BargeBasin$Chart" "barges" "I") (List.mem_of_getElem? (i := 1) (by decide +kernel))) (fun _ h9 => h9) rfl dX0_firstIn_6 ?_
    refine lv_icmp_ge (tgt := 40) hx hb dX0_firstIn_9 (by decide) (fun c_1 => ?_) (fun c_1 => ?_)
    · replace hf := ob_pos c_1 hf
      cases hf
      exact K1 rfl ls (lv_sub hl [] rfl)
    · replace hf := ob_neg c_1 hf
      refine lv_iload hx hb dX0_firstIn_12 (lv_at hl 3 rfl) ?_
      refine lv_iload_n hx hb dX0_firstIn_14 rfl (lv_at hl 2 rfl) ?_
      refine lv_icmp_eq (tgt := 34) hx hb dX0_firstIn_15 (by decide) (fun c_2 => ?_) (fun c_2 => ?_)
      · replace hf := ob_pos c_2 hf
        obtain ⟨v4_3, ev4_3⟩ : ∃ y : Int32, y = v4 + 1 := ⟨_, rfl⟩
        replace hf := ob_nm ev4_3 hf
        refine lv_iinc (v := v4_3) (lv' := [(4, .int v4_3), (0, .ref a_t), (1, .long v1), (3, .int v3)]) hx hb dX0_firstIn_34 hl (k := 3) rfl (by rw [ev4_3]; rfl) (by decide) rfl (fun ls hl => ?_)
        refine lv_goto (tgt := 3) hx hb dX0_firstIn_37 (by decide) ?_
        exact ih _ ex hf ls (lv_sub hl [1, 2, 3, 0] rfl) K0 K1
      · replace hf := ob_neg c_2 hf
        refine lv_aload_n hx hb dX0_firstIn_18 rfl (lv_at hl 0 rfl) ?_
        refine lv_iload hx hb dX0_firstIn_19 (lv_at hl 3 rfl) ?_
        replace hf := ob_b hf
        obtain ⟨zr_4, hc_5, hf⟩ := hf
        refine vp_callSl (W.runV (As := [.int v4]) (rest := []) ⟨hx, hb, hml, hown, hts⟩ (c_f_Chart_fieldsOf l D cT a_t a_kind a_place a_length a_gate a_across a_wide a_high a_shape k_width k_height k_barges k_walls k_taken k_place k_shape v4 _ hc_5) (cwV 1 hts gX0_firstIn_X0_fieldsOf rfl rfl rfl (by decide +kernel) ⟨Nat.le_of_ble_eq_true rfl, Nat.le_of_ble_eq_true rfl⟩) ⟨fun a U g mk q => by obtain ⟨q0, qP, qK, qN⟩ := q; exact ⟨q0, qP, va_K.moved (u := U) (U := U.calling g mk a) (Vm.Alike.refl U.vm) qK, jNw_same (u := U) (U := U.calling g mk a) rfl qN⟩, va_recv hK hP (ci := 0) (q0 := 0) rfl rfl, fun U hU hW => ⟨rfl, by rw [hU]; exact hP.sub [0, 1, 2] rfl, va_K.moved hW.alike hK, jNw_warm hW hN⟩⟩ rfl rfl hl.1 rfl (lv_room (Nat.le_of_ble_eq_true rfl)) dX0_firstIn_21 ⟨Nat.le_of_ble_eq_true rfl, Nat.le_of_ble_eq_true rfl⟩) (fun r_4 er_6 => ?_)
        subst er_6
        refine lv_lload_n hx hb dX0_firstIn_24 rfl (lv_at hl 1 rfl) ?_
        refine lv_land hx hb dX0_firstIn_25 ?_
        refine lv_lconst (v := 0) hx hb dX0_firstIn_26 (by decide) ?_
        refine W.lcmp hx hb dX0_firstIn_27 ?_
        refine lv_if_eq (tgt := 34) hx hb dX0_firstIn_28 (by decide) (fun c_7 => ?_) (fun c_7 => ?_)
        · replace hf := ob_pos c_7 hf
          obtain ⟨v4_8, ev4_8⟩ : ∃ y : Int32, y = v4 + 1 := ⟨_, rfl⟩
          replace hf := ob_nm ev4_8 hf
          refine lv_iinc (v := v4_8) (lv' := [(4, .int v4_8), (0, .ref a_t), (1, .long v1), (3, .int v3)]) hx hb dX0_firstIn_34 hl (k := 3) rfl (by rw [ev4_8]; rfl) (by decide) rfl (fun ls hl => ?_)
          refine lv_goto (tgt := 3) hx hb dX0_firstIn_37 (by decide) ?_
          exact ih _ ex hf ls (lv_sub hl [1, 2, 3, 0] rfl) K0 K1
        · replace hf := ob_neg c_7 hf
          cases hf
          exact K0 _ rfl ls (lv_sub hl [3] rfl)
set_option maxHeartbeats 4000000 in
set_option maxRecDepth 100000 in
theorem c_f_Chart_firstIn (l : Launch) (D : va_G) (cT : Nat → ClassId) (a_t a_kind a_place a_length a_gate a_across a_wide a_high a_shape : Nat) (k_width : Int32) (k_height : Int32) (k_barges : Int32) (k_walls : Int64) (k_taken : Int64) (k_place : Nat → Int32) (k_shape : Nat → Int64) (v1 : Int64) (v3 : Int32) (r0 : Int32) (hf : f_Chart_firstIn v1 v3 k_barges k_place k_shape = some r0) : Met l yX0_firstIn wsX0_firstIn rm_Chart_firstIn (va_Pc [.ref a_t, .long v1, .int v3] (fun U => va_P D vwCl [(a_t, .inr (0, [.int k_width, .int k_height, .int k_barges, .long k_walls, .long k_taken, .ref a_kind, .ref a_place, .ref a_length, .ref a_gate, .ref a_across, .ref a_wide, .ref a_high, .ref a_shape])), (a_place, .inl (cT 0, 12, .inl k_place)), (a_shape, .inl (cT 1, 12, .inr (.inl k_shape)))] U.heap ∧ va_K D vwCl (jT cT) U ∧ jNw U)) (vp_Si (fun r => r = r0)) 0 0 (fun _ => False) := by
  refine Met.ofW (cc := cX0_firstIn) (maxL := 5) (ret := (some .int)) (by decide) rfl ?_
  intro p e s m args below meth c s₁ B hml hv
  obtain ⟨rfl, hP, hK, hN⟩ := hv
  have hx := B.exec
  have hb := B.bytes
  have hr := B.returns
  have hts := atoms_spec (ws := wsX0_firstIn) B.pre
  have hown : s.vm.findClass RX0 = some m.cls := findClass_of_methodNamed B.named
  have hlocks := B.notSynchronized
  have hl := lv_entry ([.ref a_t, .long v1, .int v3]) (n := 5) (Nat.le_of_ble_eq_true rfl)
  rw [lg_entry_eq]
  generalize (lg_sl ([.ref a_t, .long v1, .int v3]) ++ List.replicate (5 - (lg_sl ([.ref a_t, .long v1, .int v3])).length) Slot.unset).toArray = ls at hl ⊢
  have hl : lv_has ls 5 [(0, .ref a_t), (1, .long v1), (3, .int v3)] := hl
  unfold f_Chart_firstIn at hf
  refine lv_iconst (v := 0) hx hb dX0_firstIn_0 (by decide) ?_
  refine lv_istore (lv' := [(4, .int ((0 : Int32))), (0, .ref a_t), (1, .long v1), (3, .int v3)]) hx hb dX0_firstIn_1 hl (by decide) rfl (fun ls hl => ?_)
  replace hf := ob_b hf
  obtain ⟨ex_10, hq_11, hf⟩ := hf
  refine l_f_Chart_firstIn_L3 hx hb hml hown hts hK hN hP jN _ ex_10 hq_11 ls (lv_sub hl [1, 2, 3, 0] rfl) (fun v4_12 ee_13 ls hl => ?_) (fun ee_14 ls hl => ?_)
  · subst ee_13
    replace hf := ob_inl hf
    refine lv_iload hx hb dX0_firstIn_31 (lv_at hl 0 rfl) ?_
    cases hf
    exact W.iret hx hb hr (fun t ht hW => ⟨_, rfl, rfl, ht⟩) (fun q h => by cases h) dX0_firstIn_33
  · subst ee_14
    replace hf := ob_inr hf
    replace hf := ob_un0 hf
    refine lv_iconst (v := -1) hx hb dX0_firstIn_40 (by decide) ?_
    cases hf
    exact W.iret hx hb hr (fun t ht hW => ⟨_, rfl, rfl, ht⟩) (fun q h => by cases h) dX0_firstIn_41
theorem iw_wsX0_signAt_X0 : ∀ w ∈ wsX00, w ∈ wsX0_signAt := fun _ h => List.mem_cons_of_mem _ (List.mem_append_right _ h)
abbrev rm_Chart_signAt : Room := { frames := 2, cells := 0, slots := 0, locals := 45 }
set_option maxHeartbeats 4000000 in
set_option maxRecDepth 100000 in
theorem c_f_Chart_signAt (l : Launch) (D : va_G) (cT : Nat → ClassId) (a_t a_kind a_place a_length a_gate a_across a_wide a_high a_shape : Nat) (k_width : Int32) (k_height : Int32) (k_barges : Int32) (k_walls : Int64) (k_taken : Int64) (k_place : Nat → Int32) (k_shape : Nat → Int64) (v1 : Int32) (v2 : Int32) (r0 : Int32) (hf : f_Chart_signAt v1 v2 k_barges k_walls k_place k_shape = some r0) : Met l yX0_signAt wsX0_signAt rm_Chart_signAt (va_Pc [.ref a_t, .int v1, .int v2] (fun U => va_P D vwCl [(a_t, .inr (0, [.int k_width, .int k_height, .int k_barges, .long k_walls, .long k_taken, .ref a_kind, .ref a_place, .ref a_length, .ref a_gate, .ref a_across, .ref a_wide, .ref a_high, .ref a_shape])), (a_place, .inl (cT 0, 12, .inl k_place)), (a_shape, .inl (cT 1, 12, .inr (.inl k_shape)))] U.heap ∧ va_K D vwCl (jT cT) U ∧ jNw U)) (vp_Si (fun r => r = r0)) 0 0 (fun _ => False) := by
  refine Met.ofW (cc := cX0_signAt) (maxL := 4) (ret := (some .int)) (by decide) rfl ?_
  intro p e s m args below meth c s₁ B hml hv
  obtain ⟨rfl, hP, hK, hN⟩ := hv
  have hx := B.exec
  have hb := B.bytes
  have hr := B.returns
  have hts := atoms_spec (ws := wsX0_signAt) B.pre
  have hown : s.vm.findClass RX0 = some m.cls := findClass_of_methodNamed B.named
  have hlocks := B.notSynchronized
  have hl := lv_entry ([.ref a_t, .int v1, .int v2]) (n := 4) (Nat.le_of_ble_eq_true rfl)
  rw [lg_entry_eq]
  generalize (lg_sl ([.ref a_t, .int v1, .int v2]) ++ List.replicate (4 - (lg_sl ([.ref a_t, .int v1, .int v2])).length) Slot.unset).toArray = ls at hl ⊢
  have hl : lv_has ls 4 [(0, .ref a_t), (1, .int v1), (2, .int v2)] := hl
  unfold f_Chart_signAt at hf
  refine lv_aload_n hx hb dX0_signAt_0 rfl (lv_at hl 0 rfl) ?_
  refine lv_iload_n hx hb dX0_signAt_1 rfl (lv_at hl 1 rfl) ?_
  refine lv_iload_n hx hb dX0_signAt_2 rfl (lv_at hl 2 rfl) ?_
  replace hf := ob_b hf
  obtain ⟨zr_1, hc_2, hf⟩ := hf
  refine vp_callSi (W.runV (As := [.int v1, .int v2]) (rest := []) ⟨hx, hb, hml, hown, hts⟩ (c_f_Chart_isWall l D cT a_t a_kind a_place a_length a_gate a_across a_wide a_high a_shape k_width k_height k_barges k_walls k_taken v1 v2 _ hc_2) (cwV 2 hts gX0_signAt_X0_isWall rfl rfl rfl (by decide +kernel) ⟨Nat.le_of_ble_eq_true rfl, Nat.le_of_ble_eq_true rfl⟩) ⟨fun a U g mk q => by obtain ⟨q0, qP, qK, qN⟩ := q; exact ⟨q0, qP, va_K.moved (u := U) (U := U.calling g mk a) (Vm.Alike.refl U.vm) qK, jNw_same (u := U) (U := U.calling g mk a) rfl qN⟩, va_recv hK hP (ci := 0) (q0 := 0) rfl rfl, fun U hU hW => ⟨rfl, by rw [hU]; exact hP.sub [0] rfl, va_K.moved hW.alike hK, jNw_warm hW hN⟩⟩ rfl rfl hl.1 rfl (lv_room (Nat.le_of_ble_eq_true rfl)) dX0_signAt_3 ⟨Nat.le_of_ble_eq_true rfl, Nat.le_of_ble_eq_true rfl⟩) (fun r_1 er_3 => ?_)
  subst er_3
  refine lv_if_eq (tgt := 12) hx hb dX0_signAt_6 (by decide) (fun c_4 => ?_) (fun c_4 => ?_)
  · replace hf := ob_pos c_4 hf
    refine lv_aload_n hx hb dX0_signAt_12 rfl (lv_at hl 0 rfl) ?_
    refine lv_lconst (v := 1) hx hb dX0_signAt_13 (by decide) ?_
    refine lv_bipush (v := 8) hx hb dX0_signAt_14 (by decide) ?_
    refine lv_iload_n hx hb dX0_signAt_16 rfl (lv_at hl 2 rfl) ?_
    refine lv_imul hx hb dX0_signAt_17 ?_
    refine lv_iload_n hx hb dX0_signAt_18 rfl (lv_at hl 1 rfl) ?_
    refine lv_iadd hx hb dX0_signAt_19 ?_
    refine lv_lshl hx hb dX0_signAt_20 rfl ?_
    refine lv_iconst (v := -1) hx hb dX0_signAt_21 (by decide) ?_
    replace hf := ob_b hf
    obtain ⟨zr_5, hc_6, hf⟩ := hf
    refine vp_callSi (W.runV (As := [.long (jlshl ((1 : Int64)) ((((8 : Int32)) * v2) + v1)), .int ((-1 : Int32))]) (rest := []) ⟨hx, hb, hml, hown, hts⟩ (c_f_Chart_firstIn l D cT a_t a_kind a_place a_length a_gate a_across a_wide a_high a_shape k_width k_height k_barges k_walls k_taken k_place k_shape (jlshl ((1 : Int64)) ((((8 : Int32)) * v2) + v1)) ((-1 : Int32)) _ hc_6) (cwV 2 hts gX0_signAt_X0_firstIn rfl rfl rfl (by decide +kernel) ⟨Nat.le_of_ble_eq_true rfl, Nat.le_of_ble_eq_true rfl⟩) ⟨fun a U g mk q => by obtain ⟨q0, qP, qK, qN⟩ := q; exact ⟨q0, qP, va_K.moved (u := U) (U := U.calling g mk a) (Vm.Alike.refl U.vm) qK, jNw_same (u := U) (U := U.calling g mk a) rfl qN⟩, va_recv hK hP (ci := 0) (q0 := 0) rfl rfl, fun U hU hW => ⟨rfl, by rw [hU]; exact hP.sub [0, 1, 2] rfl, va_K.moved hW.alike hK, jNw_warm hW hN⟩⟩ rfl rfl hl.1 rfl (lv_room (Nat.le_of_ble_eq_true rfl)) dX0_signAt_22 ⟨Nat.le_of_ble_eq_true rfl, Nat.le_of_ble_eq_true rfl⟩) (fun r_5 er_7 => ?_)
    subst er_7
    refine lv_istore_n (lv' := [(3, .int r_5), (0, .ref a_t), (1, .int v1), (2, .int v2)]) hx hb dX0_signAt_25 rfl hl (by decide) rfl (fun ls hl => ?_)
    refine lv_iload_n hx hb dX0_signAt_26 rfl (lv_at hl 0 rfl) ?_
    refine lv_if_ge (tgt := 35) hx hb dX0_signAt_27 (by decide) (fun c_8 => ?_) (fun c_8 => ?_)
    · replace hf := ob_pos c_8 hf
      refine lv_iload_n hx hb dX0_signAt_35 rfl (lv_at hl 0 rfl) ?_
      cases hf
      exact W.iret hx hb hr (fun t ht hW => ⟨_, rfl, rfl, ht⟩) (fun q h => by cases h) dX0_signAt_36
    · replace hf := ob_neg c_8 hf
      refine lv_bipush (v := -3) hx hb dX0_signAt_30 (by decide) ?_
      refine lv_goto (tgt := 36) hx hb dX0_signAt_32 (by decide) ?_
      cases hf
      exact W.iret hx hb hr (fun t ht hW => ⟨_, rfl, rfl, ht⟩) (fun q h => by cases h) dX0_signAt_36
  · replace hf := ob_neg c_4 hf
    refine lv_bipush (v := -2) hx hb dX0_signAt_9 (by decide) ?_
    cases hf
    exact W.iret hx hb hr (fun t ht hW => ⟨_, rfl, rfl, ht⟩) (fun q h => by cases h) dX0_signAt_11
theorem iw_wsX0_letterAt_X0 : ∀ w ∈ wsX00, w ∈ wsX0_letterAt := fun _ h => List.mem_cons_of_mem _ (List.mem_append_right _ h)
abbrev rm_Chart_letterAt : Room := { frames := 3, cells := 0, slots := 0, locals := 68 }
set_option maxHeartbeats 4000000 in
set_option maxRecDepth 100000 in
theorem c_f_Chart_letterAt (l : Launch) (D : va_G) (cT : Nat → ClassId) (a_t a_kind a_place a_length a_gate a_across a_wide a_high a_shape : Nat) (k_width : Int32) (k_height : Int32) (k_barges : Int32) (k_walls : Int64) (k_taken : Int64) (k_kind : Nat → Int32) (k_place : Nat → Int32) (k_shape : Nat → Int64) (v1 : Int32) (v2 : Int32) (r0 : Int32) (hf : f_Chart_letterAt v1 v2 k_barges k_walls k_kind k_place k_shape = some r0) : Met l yX0_letterAt wsX0_letterAt rm_Chart_letterAt (va_Pc [.ref a_t, .int v1, .int v2] (fun U => va_P D vwCl [(a_t, .inr (0, [.int k_width, .int k_height, .int k_barges, .long k_walls, .long k_taken, .ref a_kind, .ref a_place, .ref a_length, .ref a_gate, .ref a_across, .ref a_wide, .ref a_high, .ref a_shape])), (a_kind, .inl (cT 0, 12, .inl k_kind)), (a_place, .inl (cT 0, 12, .inl k_place)), (a_shape, .inl (cT 1, 12, .inr (.inl k_shape)))] U.heap ∧ va_K D vwCl (jT cT) U ∧ jNw U)) (vp_Si (fun r => r = r0)) 0 0 (fun _ => False) := by
  refine Met.ofW (cc := cX0_letterAt) (maxL := 4) (ret := (some .int)) (by decide) rfl ?_
  intro p e s m args below meth c s₁ B hml hv
  obtain ⟨rfl, hP, hK, hN⟩ := hv
  have hx := B.exec
  have hb := B.bytes
  have hr := B.returns
  have hts := atoms_spec (ws := wsX0_letterAt) B.pre
  have hown : s.vm.findClass RX0 = some m.cls := findClass_of_methodNamed B.named
  have hlocks := B.notSynchronized
  have hl := lv_entry ([.ref a_t, .int v1, .int v2]) (n := 4) (Nat.le_of_ble_eq_true rfl)
  rw [lg_entry_eq]
  generalize (lg_sl ([.ref a_t, .int v1, .int v2]) ++ List.replicate (4 - (lg_sl ([.ref a_t, .int v1, .int v2])).length) Slot.unset).toArray = ls at hl ⊢
  have hl : lv_has ls 4 [(0, .ref a_t), (1, .int v1), (2, .int v2)] := hl
  unfold f_Chart_letterAt at hf
  refine lv_aload_n hx hb dX0_letterAt_0 rfl (lv_at hl 0 rfl) ?_
  refine lv_iload_n hx hb dX0_letterAt_1 rfl (lv_at hl 1 rfl) ?_
  refine lv_iload_n hx hb dX0_letterAt_2 rfl (lv_at hl 2 rfl) ?_
  replace hf := ob_b hf
  obtain ⟨zr_1, hc_2, hf⟩ := hf
  refine vp_callSi (W.runV (As := [.int v1, .int v2]) (rest := []) ⟨hx, hb, hml, hown, hts⟩ (c_f_Chart_signAt l D cT a_t a_kind a_place a_length a_gate a_across a_wide a_high a_shape k_width k_height k_barges k_walls k_taken k_place k_shape v1 v2 _ hc_2) (cwV 2 hts gX0_letterAt_X0_signAt rfl rfl rfl (by decide +kernel) ⟨Nat.le_of_ble_eq_true rfl, Nat.le_of_ble_eq_true rfl⟩) ⟨fun a U g mk q => by obtain ⟨q0, qP, qK, qN⟩ := q; exact ⟨q0, qP, va_K.moved (u := U) (U := U.calling g mk a) (Vm.Alike.refl U.vm) qK, jNw_same (u := U) (U := U.calling g mk a) rfl qN⟩, va_recv hK hP (ci := 0) (q0 := 0) rfl rfl, fun U hU hW => ⟨rfl, by rw [hU]; exact hP.sub [0, 2, 3] rfl, va_K.moved hW.alike hK, jNw_warm hW hN⟩⟩ rfl rfl hl.1 rfl (lv_room (Nat.le_of_ble_eq_true rfl)) dX0_letterAt_3 ⟨Nat.le_of_ble_eq_true rfl, Nat.le_of_ble_eq_true rfl⟩) (fun r_1 er_3 => ?_)
  subst er_3
  refine lv_istore_n (lv' := [(3, .int r_1), (0, .ref a_t), (1, .int v1), (2, .int v2)]) hx hb dX0_letterAt_6 rfl hl (by decide) rfl (fun ls hl => ?_)
  refine lv_iload_n hx hb dX0_letterAt_7 rfl (lv_at hl 0 rfl) ?_
  refine lv_if_ge (tgt := 25) hx hb dX0_letterAt_8 (by decide) (fun c_4 => ?_) (fun c_4 => ?_)
  · replace hf := ob_pos c_4 hf
    refine lv_aload_n hx hb dX0_letterAt_25 rfl (lv_at hl 1 rfl) ?_
    refine va_get (D := D) (ci := 0) (v := .ref a_kind) (C := RX0) (T := TX0) (N := 13) hx hb hts iw_wsX0_letterAt_X0 hown hK hP 0 rfl rfl 5 (by decide) (hts (.fieldLink RX0 9 "BargeBasin$Chart" "kind" "[I") (List.mem_of_getElem? (i := 1) (by decide +kernel))) (fun _ h9 => h9) rfl dX0_letterAt_26 ?_
    refine lv_iload_n hx hb dX0_letterAt_29 rfl (lv_at hl 0 rfl) ?_
    replace hf := ob_grd hf
    obtain ⟨hi_5, hf⟩ := hf
    refine va_iald hx hb hK hP 1 0 rfl rfl hi_5 dX0_letterAt_30 ?_
    refine lv_iconst (v := 5) hx hb dX0_letterAt_31 (by decide) ?_
    refine lv_icmp_ne (tgt := 40) hx hb dX0_letterAt_32 (by decide) (fun c_6 => ?_) (fun c_6 => ?_)
    · replace hf := ob_neg c_6 hf
      refine lv_bipush (v := 97) hx hb dX0_letterAt_40 (by decide) ?_
      refine lv_iload_n hx hb dX0_letterAt_42 rfl (lv_at hl 0 rfl) ?_
      refine lv_iadd hx hb dX0_letterAt_43 ?_
      cases hf
      exact W.iret hx hb hr (fun t ht hW => ⟨_, rfl, rfl, ht⟩) (fun q h => by cases h) dX0_letterAt_44
    · replace hf := ob_pos c_6 hf
      refine lv_bipush (v := 65) hx hb dX0_letterAt_35 (by decide) ?_
      refine lv_goto (tgt := 42) hx hb dX0_letterAt_37 (by decide) ?_
      refine lv_iload_n hx hb dX0_letterAt_42 rfl (lv_at hl 0 rfl) ?_
      refine lv_iadd hx hb dX0_letterAt_43 ?_
      cases hf
      exact W.iret hx hb hr (fun t ht hW => ⟨_, rfl, rfl, ht⟩) (fun q h => by cases h) dX0_letterAt_44
  · replace hf := ob_neg c_4 hf
    refine lv_iload_n hx hb dX0_letterAt_11 rfl (lv_at hl 0 rfl) ?_
    refine lv_bipush (v := -2) hx hb dX0_letterAt_12 (by decide) ?_
    refine lv_icmp_ne (tgt := 22) hx hb dX0_letterAt_14 (by decide) (fun c_7 => ?_) (fun c_7 => ?_)
    · replace hf := ob_neg c_7 hf
      refine lv_bipush (v := 46) hx hb dX0_letterAt_22 (by decide) ?_
      cases hf
      exact W.iret hx hb hr (fun t ht hW => ⟨_, rfl, rfl, ht⟩) (fun q h => by cases h) dX0_letterAt_24
    · replace hf := ob_pos c_7 hf
      refine lv_bipush (v := 35) hx hb dX0_letterAt_17 (by decide) ?_
      refine lv_goto (tgt := 24) hx hb dX0_letterAt_19 (by decide) ?_
      cases hf
      exact W.iret hx hb hr (fun t ht hW => ⟨_, rfl, rfl, ht⟩) (fun q h => by cases h) dX0_letterAt_24
abbrev rm_Chart_wideOf : Room := { frames := 0, cells := 0, slots := 0, locals := 0 }
set_option maxHeartbeats 4000000 in
set_option maxRecDepth 100000 in
theorem c_f_Chart_wideOf (l : Launch) (D : va_G) (cT : Nat → ClassId) (v0 : Int32) (v1 : Int32) (r0 : Int32) (hf : f_Chart_wideOf v0 v1 = some r0) : Met l yX0_wideOf wsX0_wideOf rm_Chart_wideOf (va_Pc [.int v0, .int v1] (fun U => True)) (vp_Si (fun r => r = r0)) 0 0 (fun _ => False) := by
  refine Met.ofW (cc := cX0_wideOf) (maxL := 2) (ret := (some .int)) (by decide) rfl ?_
  intro p e s m args below meth c s₁ B hml hv
  obtain ⟨rfl, -⟩ := hv
  have hx := B.exec
  have hb := B.bytes
  have hr := B.returns
  have hts := atoms_spec (ws := wsX0_wideOf) B.pre
  have hown : s.vm.findClass RX0 = some m.cls := findClass_of_methodNamed B.named
  have hlocks := B.notSynchronized
  have hl := lv_entry ([.int v0, .int v1]) (n := 2) (Nat.le_of_ble_eq_true rfl)
  rw [lg_entry_eq]
  generalize (lg_sl ([.int v0, .int v1]) ++ List.replicate (2 - (lg_sl ([.int v0, .int v1])).length) Slot.unset).toArray = ls at hl ⊢
  have hl : lv_has ls 2 [(0, .int v0), (1, .int v1)] := hl
  unfold f_Chart_wideOf at hf
  refine lv_iload_n hx hb dX0_wideOf_0 rfl (lv_at hl 1 rfl) ?_
  refine lv_if_eq (tgt := 8) hx hb dX0_wideOf_1 (by decide) (fun c_1 => ?_) (fun c_1 => ?_)
  · replace hf := ob_pos c_1 hf
    refine lv_iload_n hx hb dX0_wideOf_8 rfl (lv_at hl 0 rfl) ?_
    cases hf
    exact W.iret hx hb hr (fun t ht hW => ⟨_, rfl, rfl, ht⟩) (fun q h => by cases h) dX0_wideOf_9
  · replace hf := ob_neg c_1 hf
    refine lv_iconst (v := 1) hx hb dX0_wideOf_4 (by decide) ?_
    refine lv_goto (tgt := 9) hx hb dX0_wideOf_5 (by decide) ?_
    cases hf
    exact W.iret hx hb hr (fun t ht hW => ⟨_, rfl, rfl, ht⟩) (fun q h => by cases h) dX0_wideOf_9
abbrev rm_Chart_highOf : Room := { frames := 0, cells := 0, slots := 0, locals := 0 }
set_option maxHeartbeats 4000000 in
set_option maxRecDepth 100000 in
theorem c_f_Chart_highOf (l : Launch) (D : va_G) (cT : Nat → ClassId) (v0 : Int32) (v1 : Int32) (v2 : Int32) (r0 : Int32) (hf : f_Chart_highOf v0 v1 v2 = some r0) : Met l yX0_highOf wsX0_highOf rm_Chart_highOf (va_Pc [.int v0, .int v1, .int v2] (fun U => True)) (vp_Si (fun r => r = r0)) 0 0 (fun _ => False) := by
  refine Met.ofW (cc := cX0_highOf) (maxL := 3) (ret := (some .int)) (by decide) rfl ?_
  intro p e s m args below meth c s₁ B hml hv
  obtain ⟨rfl, -⟩ := hv
  have hx := B.exec
  have hb := B.bytes
  have hr := B.returns
  have hts := atoms_spec (ws := wsX0_highOf) B.pre
  have hown : s.vm.findClass RX0 = some m.cls := findClass_of_methodNamed B.named
  have hlocks := B.notSynchronized
  have hl := lv_entry ([.int v0, .int v1, .int v2]) (n := 3) (Nat.le_of_ble_eq_true rfl)
  rw [lg_entry_eq]
  generalize (lg_sl ([.int v0, .int v1, .int v2]) ++ List.replicate (3 - (lg_sl ([.int v0, .int v1, .int v2])).length) Slot.unset).toArray = ls at hl ⊢
  have hl : lv_has ls 3 [(0, .int v0), (1, .int v1), (2, .int v2)] := hl
  unfold f_Chart_highOf at hf
  refine lv_iload_n hx hb dX0_highOf_0 rfl (lv_at hl 2 rfl) ?_
  refine lv_if_ne (tgt := 9) hx hb dX0_highOf_1 (by decide) (fun c_1 => ?_) (fun c_1 => ?_)
  · replace hf := ob_neg c_1 hf
    refine lv_iload_n hx hb dX0_highOf_9 rfl (lv_at hl 1 rfl) ?_
    refine lv_goto (tgt := 14) hx hb dX0_highOf_10 (by decide) ?_
    cases hf
    exact W.iret hx hb hr (fun t ht hW => ⟨_, rfl, rfl, ht⟩) (fun q h => by cases h) dX0_highOf_14
  · replace hf := ob_pos c_1 hf
    refine lv_iload_n hx hb dX0_highOf_4 rfl (lv_at hl 0 rfl) ?_
    refine lv_iconst (v := 3) hx hb dX0_highOf_5 (by decide) ?_
    refine lv_icmp_ne (tgt := 13) hx hb dX0_highOf_6 (by decide) (fun c_2 => ?_) (fun c_2 => ?_)
    · replace hf := ob_neg c_2 hf
      refine lv_iconst (v := 1) hx hb dX0_highOf_13 (by decide) ?_
      cases hf
      exact W.iret hx hb hr (fun t ht hW => ⟨_, rfl, rfl, ht⟩) (fun q h => by cases h) dX0_highOf_14
    · replace hf := ob_pos c_2 hf
      refine lv_iload_n hx hb dX0_highOf_9 rfl (lv_at hl 1 rfl) ?_
      refine lv_goto (tgt := 14) hx hb dX0_highOf_10 (by decide) ?_
      cases hf
      exact W.iret hx hb hr (fun t ht hW => ⟨_, rfl, rfl, ht⟩) (fun q h => by cases h) dX0_highOf_14
abbrev rm_Chart_shapeOf : Room := { frames := 0, cells := 0, slots := 0, locals := 0 }
set_option maxHeartbeats 4000000 in
set_option maxRecDepth 100000 in
theorem l_f_Chart_shapeOf_L12 {p : Program} {l : Launch} {e : Env} {s : State} {m : MethodId} {args : Array Value} {below : List Frame} {meth : Method} {c : Code} {Q : State → Prop} {v1 : Int32} {v2 : Int64} (hx : p.tables.exec = Jvm.exec) (hb : c.code = cX0_shapeOf) (hml : c.maxLocals = 7) (hown : s.vm.findClass RX0 = some m.cls) (hts : ∀ w ∈ wsX0_shapeOf, w.before args s = true) : ∀ (n : Nat) (v4 : Int64) (v6 : Int32) (ex : Int64), f_Chart_shapeOf_L12 v1 v2 n v4 v6 = some ex → ∀ (ls : Array Slot), lv_has ls 7 [(1, .int v1), (2, .long v2), (4, .long v4), (6, .int v6)] → (∀ (v4_5 : Int64), ex = v4_5 → ∀ (ls : Array Slot), lv_has ls 7 [(4, .long v4_5)] → W p l e (headSpec wsX0_shapeOf rm_Chart_shapeOf).room s m args below meth c s.heap [] 0 0 Q (F0 m 36 ls [])) → W p l e (headSpec wsX0_shapeOf rm_Chart_shapeOf).room s m args below meth c s.heap [] 0 0 Q (F0 m 12 ls []) := by
  intro n
  induction n with
  | zero => intro v4 v6 ex hf; exact (ob_none hf).elim
  | succ n ih =>
    intro v4 v6 ex hf ls hl K0
    rw [f_Chart_shapeOf_L12] at hf
    refine lv_iload hx hb dX0_shapeOf_12 (lv_at hl 3 rfl) ?_
    refine lv_iload_n hx hb dX0_shapeOf_14 rfl (lv_at hl 0 rfl) ?_
    refine lv_icmp_ge (tgt := 36) hx hb dX0_shapeOf_15 (by decide) (fun c_2 => ?_) (fun c_2 => ?_)
    · replace hf := ob_pos c_2 hf
      cases hf
      exact K0 _ rfl ls (lv_sub hl [2] rfl)
    · replace hf := ob_neg c_2 hf
      refine lv_lload hx hb dX0_shapeOf_18 (lv_at hl 2 rfl) ?_
      refine lv_lload_n hx hb dX0_shapeOf_20 rfl (lv_at hl 1 rfl) ?_
      refine lv_bipush (v := 8) hx hb dX0_shapeOf_21 (by decide) ?_
      refine lv_iload hx hb dX0_shapeOf_23 (lv_at hl 3 rfl) ?_
      refine lv_imul hx hb dX0_shapeOf_25 ?_
      refine lv_lshl hx hb dX0_shapeOf_26 rfl ?_
      refine lv_lor hx hb dX0_shapeOf_27 ?_
      refine lv_topl (fun v4_3 ev4_3 => ?_)
      replace hf := ob_nm ev4_3 hf
      refine lv_lstore (lv' := [(4, .long v4_3), (1, .int v1), (2, .long v2), (6, .int v6)]) hx hb dX0_shapeOf_28 hl (by decide) rfl (fun ls hl => ?_)
      obtain ⟨v6_4, ev6_4⟩ : ∃ y : Int32, y = v6 + 1 := ⟨_, rfl⟩
      replace hf := ob_nm ev6_4 hf
      refine lv_iinc (v := v6_4) (lv' := [(6, .int v6_4), (4, .long v4_3), (1, .int v1), (2, .long v2)]) hx hb dX0_shapeOf_30 hl (k := 3) rfl (by rw [ev6_4]; rfl) (by decide) rfl (fun ls hl => ?_)
      refine lv_goto (tgt := 12) hx hb dX0_shapeOf_33 (by decide) ?_
      exact ih _ _ ex hf ls (lv_sub hl [2, 3, 1, 0] rfl) K0
set_option maxHeartbeats 4000000 in
set_option maxRecDepth 100000 in
theorem c_f_Chart_shapeOf (l : Launch) (D : va_G) (cT : Nat → ClassId) (v0 : Int32) (v1 : Int32) (r0 : Int64) (hf : f_Chart_shapeOf v0 v1 = some r0) : Met l yX0_shapeOf wsX0_shapeOf rm_Chart_shapeOf (va_Pc [.int v0, .int v1] (fun U => True)) (vp_Sl (fun r => r = r0)) 0 0 (fun _ => False) := by
  refine Met.ofW (cc := cX0_shapeOf) (maxL := 7) (ret := (some .long)) (by decide) rfl ?_
  intro p e s m args below meth c s₁ B hml hv
  obtain ⟨rfl, -⟩ := hv
  have hx := B.exec
  have hb := B.bytes
  have hr := B.returns
  have hts := atoms_spec (ws := wsX0_shapeOf) B.pre
  have hown : s.vm.findClass RX0 = some m.cls := findClass_of_methodNamed B.named
  have hlocks := B.notSynchronized
  have hl := lv_entry ([.int v0, .int v1]) (n := 7) (Nat.le_of_ble_eq_true rfl)
  rw [lg_entry_eq]
  generalize (lg_sl ([.int v0, .int v1]) ++ List.replicate (7 - (lg_sl ([.int v0, .int v1])).length) Slot.unset).toArray = ls at hl ⊢
  have hl : lv_has ls 7 [(0, .int v0), (1, .int v1)] := hl
  unfold f_Chart_shapeOf at hf
  refine lv_lconst (v := 1) hx hb dX0_shapeOf_0 (by decide) ?_
  refine lv_iload_n hx hb dX0_shapeOf_1 rfl (lv_at hl 0 rfl) ?_
  refine lv_lshl hx hb dX0_shapeOf_2 rfl ?_
  refine lv_lconst (v := 1) hx hb dX0_shapeOf_3 (by decide) ?_
  refine lv_lsub hx hb dX0_shapeOf_4 ?_
  refine lv_topl (fun v2_1 ev2_1 => ?_)
  replace hf := ob_nm ev2_1 hf
  refine lv_lstore_n (lv' := [(2, .long v2_1), (0, .int v0), (1, .int v1)]) hx hb dX0_shapeOf_5 rfl hl (by decide) rfl (fun ls hl => ?_)
  refine lv_lconst (v := 0) hx hb dX0_shapeOf_6 (by decide) ?_
  refine lv_lstore (lv' := [(4, .long ((0 : Int64))), (2, .long v2_1), (0, .int v0), (1, .int v1)]) hx hb dX0_shapeOf_7 hl (by decide) rfl (fun ls hl => ?_)
  refine lv_iconst (v := 0) hx hb dX0_shapeOf_9 (by decide) ?_
  refine lv_istore (lv' := [(6, .int ((0 : Int32))), (4, .long ((0 : Int64))), (2, .long v2_1), (0, .int v0), (1, .int v1)]) hx hb dX0_shapeOf_10 hl (by decide) rfl (fun ls hl => ?_)
  replace hf := ob_b hf
  obtain ⟨ex_6, hq_7, hf⟩ := hf
  refine l_f_Chart_shapeOf_L12 hx hb hml hown hts jN _ _ ex_6 hq_7 ls (lv_sub hl [4, 2, 1, 0] rfl) (fun v4_8 ee_9 ls hl => ?_)
  have ee_9 := ee_9.symm
  subst ee_9
  refine lv_lload hx hb dX0_shapeOf_36 (lv_at hl 0 rfl) ?_
  cases hf
  exact W.lret hx hb hr (fun t ht hW => ⟨_, rfl, rfl, ht⟩) (fun q h => by cases h) dX0_shapeOf_38
theorem iw_wsX0_isInside_X0 : ∀ w ∈ wsX00, w ∈ wsX0_isInside := fun _ h => List.mem_cons_of_mem _ (List.mem_append_right _ h)
abbrev rm_Chart_isInside : Room := { frames := 0, cells := 0, slots := 0, locals := 0 }
set_option maxHeartbeats 4000000 in
set_option maxRecDepth 100000 in
theorem c_f_Chart_isInside (l : Launch) (D : va_G) (cT : Nat → ClassId) (a_t a_kind a_place a_length a_gate a_across a_wide a_high a_shape : Nat) (k_width : Int32) (k_height : Int32) (k_barges : Int32) (k_walls : Int64) (k_taken : Int64) (v1 : Int32) (v2 : Int32) (v3 : Int32) (v4 : Int32) (r0 : Int32) (hf : f_Chart_isInside v1 v2 v3 v4 k_width k_height = some r0) : Met l yX0_isInside wsX0_isInside rm_Chart_isInside (va_Pc [.ref a_t, .int v1, .int v2, .int v3, .int v4] (fun U => va_P D vwCl [(a_t, .inr (0, [.int k_width, .int k_height, .int k_barges, .long k_walls, .long k_taken, .ref a_kind, .ref a_place, .ref a_length, .ref a_gate, .ref a_across, .ref a_wide, .ref a_high, .ref a_shape]))] U.heap ∧ va_K D vwCl (jT cT) U ∧ jNw U)) (vp_Si (fun r => r = r0)) 0 0 (fun _ => False) := by
  refine Met.ofW (cc := cX0_isInside) (maxL := 5) (ret := (some .boolean)) (by decide) rfl ?_
  intro p e s m args below meth c s₁ B hml hv
  obtain ⟨rfl, hP, hK, hN⟩ := hv
  have hx := B.exec
  have hb := B.bytes
  have hr := B.returns
  have hts := atoms_spec (ws := wsX0_isInside) B.pre
  have hown : s.vm.findClass RX0 = some m.cls := findClass_of_methodNamed B.named
  have hlocks := B.notSynchronized
  have hl := lv_entry ([.ref a_t, .int v1, .int v2, .int v3, .int v4]) (n := 5) (Nat.le_of_ble_eq_true rfl)
  rw [lg_entry_eq]
  generalize (lg_sl ([.ref a_t, .int v1, .int v2, .int v3, .int v4]) ++ List.replicate (5 - (lg_sl ([.ref a_t, .int v1, .int v2, .int v3, .int v4])).length) Slot.unset).toArray = ls at hl ⊢
  have hl : lv_has ls 5 [(0, .ref a_t), (1, .int v1), (2, .int v2), (3, .int v3), (4, .int v4)] := hl
  unfold f_Chart_isInside at hf
  refine lv_iload_n hx hb dX0_isInside_0 rfl (lv_at hl 1 rfl) ?_
  refine lv_if_lt (tgt := 33) hx hb dX0_isInside_1 (by decide) (fun c_1 => ?_) (fun c_1 => ?_)
  · replace hf := ob_pos c_1 hf
    refine lv_iconst (v := 0) hx hb dX0_isInside_33 (by decide) ?_
    cases hf
    exact W.zret hx hb hr (by decide +kernel) (fun t ht hW => ⟨_, rfl, rfl, ht⟩) (fun q h => by cases h) dX0_isInside_34
  · replace hf := ob_neg c_1 hf
    refine lv_iload_n hx hb dX0_isInside_4 rfl (lv_at hl 1 rfl) ?_
    refine lv_aload_n hx hb dX0_isInside_5 rfl (lv_at hl 0 rfl) ?_
    refine va_get (D := D) (ci := 0) (v := .int k_width) (C := RX0) (T := TX0) (N := 13) hx hb hts iw_wsX0_isInside_X0 hown hK hP 0 rfl rfl 0 (by decide) (hts (.fieldLink RX0 38 "BargeBasin$Chart" "width" "I") (List.mem_of_getElem? (i := 1) (by decide +kernel))) (fun _ h9 => h9) rfl dX0_isInside_6 ?_
    refine lv_iload_n hx hb dX0_isInside_9 rfl (lv_at hl 3 rfl) ?_
    refine lv_isub hx hb dX0_isInside_10 ?_
    refine lv_icmp_gt (tgt := 33) hx hb dX0_isInside_11 (by decide) (fun c_2 => ?_) (fun c_2 => ?_)
    · replace hf := ob_pos c_2 hf
      refine lv_iconst (v := 0) hx hb dX0_isInside_33 (by decide) ?_
      cases hf
      exact W.zret hx hb hr (by decide +kernel) (fun t ht hW => ⟨_, rfl, rfl, ht⟩) (fun q h => by cases h) dX0_isInside_34
    · replace hf := ob_neg c_2 hf
      refine lv_iload_n hx hb dX0_isInside_14 rfl (lv_at hl 2 rfl) ?_
      refine lv_if_lt (tgt := 33) hx hb dX0_isInside_15 (by decide) (fun c_3 => ?_) (fun c_3 => ?_)
      · replace hf := ob_pos c_3 hf
        refine lv_iconst (v := 0) hx hb dX0_isInside_33 (by decide) ?_
        cases hf
        exact W.zret hx hb hr (by decide +kernel) (fun t ht hW => ⟨_, rfl, rfl, ht⟩) (fun q h => by cases h) dX0_isInside_34
      · replace hf := ob_neg c_3 hf
        refine lv_iload_n hx hb dX0_isInside_18 rfl (lv_at hl 2 rfl) ?_
        refine lv_aload_n hx hb dX0_isInside_19 rfl (lv_at hl 0 rfl) ?_
        refine va_get (D := D) (ci := 0) (v := .int k_height) (C := RX0) (T := TX0) (N := 13) hx hb hts iw_wsX0_isInside_X0 hown hK hP 0 rfl rfl 1 (by decide) (hts (.fieldLink RX0 42 "BargeBasin$Chart" "height" "I") (List.mem_of_getElem? (i := 2) (by decide +kernel))) (fun _ h9 => h9) rfl dX0_isInside_20 ?_
        refine lv_iload hx hb dX0_isInside_23 (lv_at hl 4 rfl) ?_
        refine lv_isub hx hb dX0_isInside_25 ?_
        refine lv_icmp_gt (tgt := 33) hx hb dX0_isInside_26 (by decide) (fun c_4 => ?_) (fun c_4 => ?_)
        · replace hf := ob_pos c_4 hf
          refine lv_iconst (v := 0) hx hb dX0_isInside_33 (by decide) ?_
          cases hf
          exact W.zret hx hb hr (by decide +kernel) (fun t ht hW => ⟨_, rfl, rfl, ht⟩) (fun q h => by cases h) dX0_isInside_34
        · replace hf := ob_neg c_4 hf
          refine lv_iconst (v := 1) hx hb dX0_isInside_29 (by decide) ?_
          refine lv_goto (tgt := 34) hx hb dX0_isInside_30 (by decide) ?_
          cases hf
          exact W.zret hx hb hr (by decide +kernel) (fun t ht hW => ⟨_, rfl, rfl, ht⟩) (fun q h => by cases h) dX0_isInside_34
theorem iw_wsX0_fits_X0 : ∀ w ∈ wsX00, w ∈ wsX0_fits := fun _ h => List.mem_cons_of_mem _ (List.mem_append_right _ h)
abbrev rm_Chart_fits : Room := { frames := 1, cells := 0, slots := 0, locals := 26 }
set_option maxHeartbeats 4000000 in
set_option maxRecDepth 100000 in
theorem c_f_Chart_fits (l : Launch) (D : va_G) (cT : Nat → ClassId) (a_t a_kind a_place a_length a_gate a_across a_wide a_high a_shape : Nat) (k_width : Int32) (k_height : Int32) (k_barges : Int32) (k_walls : Int64) (k_taken : Int64) (v1 : Int32) (v2 : Int32) (v3 : Int32) (v4 : Int32) (v5 : Int32) (r0 : Int32) (hf : f_Chart_fits v1 v2 v3 v4 v5 k_width k_height k_walls k_taken = some r0) : Met l yX0_fits wsX0_fits rm_Chart_fits (va_Pc [.ref a_t, .int v1, .int v2, .int v3, .int v4, .int v5] (fun U => va_P D vwCl [(a_t, .inr (0, [.int k_width, .int k_height, .int k_barges, .long k_walls, .long k_taken, .ref a_kind, .ref a_place, .ref a_length, .ref a_gate, .ref a_across, .ref a_wide, .ref a_high, .ref a_shape]))] U.heap ∧ va_K D vwCl (jT cT) U ∧ jNw U)) (vp_Si (fun r => r = r0)) 0 0 (fun _ => False) := by
  refine Met.ofW (cc := cX0_fits) (maxL := 8) (ret := (some .boolean)) (by decide) rfl ?_
  intro p e s m args below meth c s₁ B hml hv
  obtain ⟨rfl, hP, hK, hN⟩ := hv
  have hx := B.exec
  have hb := B.bytes
  have hr := B.returns
  have hts := atoms_spec (ws := wsX0_fits) B.pre
  have hown : s.vm.findClass RX0 = some m.cls := findClass_of_methodNamed B.named
  have hlocks := B.notSynchronized
  have hl := lv_entry ([.ref a_t, .int v1, .int v2, .int v3, .int v4, .int v5]) (n := 8) (Nat.le_of_ble_eq_true rfl)
  rw [lg_entry_eq]
  generalize (lg_sl ([.ref a_t, .int v1, .int v2, .int v3, .int v4, .int v5]) ++ List.replicate (8 - (lg_sl ([.ref a_t, .int v1, .int v2, .int v3, .int v4, .int v5])).length) Slot.unset).toArray = ls at hl ⊢
  have hl : lv_has ls 8 [(0, .ref a_t), (1, .int v1), (2, .int v2), (3, .int v3), (4, .int v4), (5, .int v5)] := hl
  unfold f_Chart_fits at hf
  refine lv_iload hx hb dX0_fits_0 (lv_at hl 4 rfl) ?_
  refine lv_iload hx hb dX0_fits_2 (lv_at hl 5 rfl) ?_
  replace hf := ob_b hf
  obtain ⟨zr_1, hc_2, hf⟩ := hf
  refine vp_callSi (W.runS (As := [.int v4, .int v5]) (rest := []) ⟨hx, hb, hml, hown, hts⟩ (c_f_Chart_wideOf l D cT v4 v5 _ hc_2) (cwS 2 hts gX0_fits_X0_wideOf rfl rfl rfl (by decide +kernel) ⟨Nat.le_of_ble_eq_true rfl, Nat.le_of_ble_eq_true rfl⟩) ⟨fun a U g mk q => q, fun U hU hW => ⟨rfl, trivial⟩⟩ rfl rfl hl.1 rfl (lv_room (Nat.le_of_ble_eq_true rfl)) dX0_fits_4 ⟨Nat.le_of_ble_eq_true rfl, Nat.le_of_ble_eq_true rfl⟩) (fun r_1 er_3 => ?_)
  subst er_3
  refine lv_istore (lv' := [(6, .int r_1), (0, .ref a_t), (1, .int v1), (2, .int v2), (3, .int v3), (4, .int v4), (5, .int v5)]) hx hb dX0_fits_7 hl (by decide) rfl (fun ls hl => ?_)
  refine lv_iload_n hx hb dX0_fits_9 rfl (lv_at hl 2 rfl) ?_
  refine lv_iload hx hb dX0_fits_10 (lv_at hl 5 rfl) ?_
  refine lv_iload hx hb dX0_fits_12 (lv_at hl 6 rfl) ?_
  replace hf := ob_b hf
  obtain ⟨zr_4, hc_5, hf⟩ := hf
  refine vp_callSi (W.runS (As := [.int v1, .int v4, .int v5]) (rest := []) ⟨hx, hb, hml, hown, hts⟩ (c_f_Chart_highOf l D cT v1 v4 v5 _ hc_5) (cwS 3 hts gX0_fits_X0_highOf rfl rfl rfl (by decide +kernel) ⟨Nat.le_of_ble_eq_true rfl, Nat.le_of_ble_eq_true rfl⟩) ⟨fun a U g mk q => q, fun U hU hW => ⟨rfl, trivial⟩⟩ rfl rfl hl.1 rfl (lv_room (Nat.le_of_ble_eq_true rfl)) dX0_fits_14 ⟨Nat.le_of_ble_eq_true rfl, Nat.le_of_ble_eq_true rfl⟩) (fun r_4 er_6 => ?_)
  subst er_6
  refine lv_istore (lv' := [(7, .int r_4), (6, .int r_1), (0, .ref a_t), (1, .int v1), (2, .int v2), (3, .int v3), (4, .int v4), (5, .int v5)]) hx hb dX0_fits_17 hl (by decide) rfl (fun ls hl => ?_)
  refine lv_aload_n hx hb dX0_fits_19 rfl (lv_at hl 2 rfl) ?_
  refine lv_iload_n hx hb dX0_fits_20 rfl (lv_at hl 4 rfl) ?_
  refine lv_iload_n hx hb dX0_fits_21 rfl (lv_at hl 5 rfl) ?_
  refine lv_iload hx hb dX0_fits_22 (lv_at hl 1 rfl) ?_
  refine lv_iload hx hb dX0_fits_24 (lv_at hl 0 rfl) ?_
  replace hf := ob_b hf
  obtain ⟨zr_7, hc_8, hf⟩ := hf
  refine vp_callSi (W.runV (As := [.int v2, .int v3, .int r_1, .int r_4]) (rest := []) ⟨hx, hb, hml, hown, hts⟩ (c_f_Chart_isInside l D cT a_t a_kind a_place a_length a_gate a_across a_wide a_high a_shape k_width k_height k_barges k_walls k_taken v2 v3 r_1 r_4 _ hc_8) (cwV 4 hts gX0_fits_X0_isInside rfl rfl rfl (by decide +kernel) ⟨Nat.le_of_ble_eq_true rfl, Nat.le_of_ble_eq_true rfl⟩) ⟨fun a U g mk q => by obtain ⟨q0, qP, qK, qN⟩ := q; exact ⟨q0, qP, va_K.moved (u := U) (U := U.calling g mk a) (Vm.Alike.refl U.vm) qK, jNw_same (u := U) (U := U.calling g mk a) rfl qN⟩, va_recv hK hP (ci := 0) (q0 := 0) rfl rfl, fun U hU hW => ⟨rfl, by rw [hU]; exact hP.sub [0] rfl, va_K.moved hW.alike hK, jNw_warm hW hN⟩⟩ rfl rfl hl.1 rfl (lv_room (Nat.le_of_ble_eq_true rfl)) dX0_fits_26 ⟨Nat.le_of_ble_eq_true rfl, Nat.le_of_ble_eq_true rfl⟩) (fun r_7 er_9 => ?_)
  subst er_9
  refine lv_if_eq (tgt := 65) hx hb dX0_fits_29 (by decide) (fun c_10 => ?_) (fun c_10 => ?_)
  · replace hf := ob_pos c_10 hf
    refine lv_iconst (v := 0) hx hb dX0_fits_65 (by decide) ?_
    cases hf
    exact W.zret hx hb hr (by decide +kernel) (fun t ht hW => ⟨_, rfl, rfl, ht⟩) (fun q h => by cases h) dX0_fits_66
  · replace hf := ob_neg c_10 hf
    refine lv_iload hx hb dX0_fits_32 (lv_at hl 1 rfl) ?_
    refine lv_iload hx hb dX0_fits_34 (lv_at hl 0 rfl) ?_
    replace hf := ob_b hf
    obtain ⟨zr_11, hc_12, hf⟩ := hf
    refine vp_callSl (W.runS (As := [.int r_1, .int r_4]) (rest := []) ⟨hx, hb, hml, hown, hts⟩ (c_f_Chart_shapeOf l D cT r_1 r_4 _ hc_12) (cwS 2 hts gX0_fits_X0_shapeOf rfl rfl rfl (by decide +kernel) ⟨Nat.le_of_ble_eq_true rfl, Nat.le_of_ble_eq_true rfl⟩) ⟨fun a U g mk q => q, fun U hU hW => ⟨rfl, trivial⟩⟩ rfl rfl hl.1 rfl (lv_room (Nat.le_of_ble_eq_true rfl)) dX0_fits_36 ⟨Nat.le_of_ble_eq_true rfl, Nat.le_of_ble_eq_true rfl⟩) (fun r_11 er_13 => ?_)
    subst er_13
    refine lv_bipush (v := 8) hx hb dX0_fits_39 (by decide) ?_
    refine lv_iload_n hx hb dX0_fits_41 rfl (lv_at hl 5 rfl) ?_
    refine lv_imul hx hb dX0_fits_42 ?_
    refine lv_iload_n hx hb dX0_fits_43 rfl (lv_at hl 4 rfl) ?_
    refine lv_iadd hx hb dX0_fits_44 ?_
    refine lv_lshl hx hb dX0_fits_45 rfl ?_
    refine lv_aload_n hx hb dX0_fits_46 rfl (lv_at hl 2 rfl) ?_
    refine va_get (D := D) (ci := 0) (v := .long k_walls) (C := RX0) (T := TX0) (N := 13) hx hb hts iw_wsX0_fits_X0 hown hK hP 0 rfl rfl 3 (by decide) (hts (.fieldLink RX0 45 "BargeBasin$Chart" "walls" "J") (List.mem_of_getElem? (i := 1) (by decide +kernel))) (fun _ h9 => h9) rfl dX0_fits_47 ?_
    refine lv_aload_n hx hb dX0_fits_50 rfl (lv_at hl 2 rfl) ?_
    refine va_get (D := D) (ci := 0) (v := .long k_taken) (C := RX0) (T := TX0) (N := 13) hx hb hts iw_wsX0_fits_X0 hown hK hP 0 rfl rfl 4 (by decide) (hts (.fieldLink RX0 55 "BargeBasin$Chart" "taken" "J") (List.mem_of_getElem? (i := 2) (by decide +kernel))) (fun _ h9 => h9) rfl dX0_fits_51 ?_
    refine lv_lor hx hb dX0_fits_54 ?_
    refine lv_land hx hb dX0_fits_55 ?_
    refine lv_lconst (v := 0) hx hb dX0_fits_56 (by decide) ?_
    refine W.lcmp hx hb dX0_fits_57 ?_
    refine lv_if_ne (tgt := 65) hx hb dX0_fits_58 (by decide) (fun c_14 => ?_) (fun c_14 => ?_)
    · replace hf := ob_neg c_14 hf
      refine lv_iconst (v := 0) hx hb dX0_fits_65 (by decide) ?_
      cases hf
      exact W.zret hx hb hr (by decide +kernel) (fun t ht hW => ⟨_, rfl, rfl, ht⟩) (fun q h => by cases h) dX0_fits_66
    · replace hf := ob_pos c_14 hf
      refine lv_iconst (v := 1) hx hb dX0_fits_61 (by decide) ?_
      refine lv_goto (tgt := 66) hx hb dX0_fits_62 (by decide) ?_
      cases hf
      exact W.zret hx hb hr (by decide +kernel) (fun t ht hW => ⟨_, rfl, rfl, ht⟩) (fun q h => by cases h) dX0_fits_66
theorem iw_wsX0_form_X0 : ∀ w ∈ wsX00, w ∈ wsX0_form := fun _ h => List.mem_cons_of_mem _ (List.mem_append_right _ h)
abbrev rm_Chart_form : Room := { frames := 1, cells := 0, slots := 0, locals := 26 }
set_option maxHeartbeats 4000000 in
set_option maxRecDepth 100000 in
theorem c_f_Chart_form (l : Launch) (D : va_G) (cT : Nat → ClassId) (sz : Nat) (a_t a_kind a_place a_length a_gate a_across a_wide a_high a_shape : Nat) (k_width : Int32) (k_height : Int32) (k_barges : Int32) (k_walls : Int64) (k_taken : Int64) (k_kind : Nat → Int32) (k_length : Nat → Int32) (k_across : Nat → Int32) (k_wide : Nat → Int32) (k_high : Nat → Int32) (k_shape : Nat → Int64) (v1 : Int32) (k_wide₉ : Nat → Int32) (k_high₉ : Nat → Int32) (k_shape₉ : Nat → Int64) (hf : f_Chart_form v1 k_kind k_length k_across k_wide k_high k_shape = some (k_wide₉, k_high₉, k_shape₉)) : Met l yX0_form wsX0_form rm_Chart_form (va_Pc [.ref a_t, .int v1] (fun U => U.heap.size = sz ∧ va_P D vwCl [(a_t, .inr (0, [.int k_width, .int k_height, .int k_barges, .long k_walls, .long k_taken, .ref a_kind, .ref a_place, .ref a_length, .ref a_gate, .ref a_across, .ref a_wide, .ref a_high, .ref a_shape])), (a_kind, .inl (cT 0, 12, .inl k_kind)), (a_length, .inl (cT 0, 12, .inl k_length)), (a_across, .inl (cT 2, 12, .inl k_across)), (a_wide, .inl (cT 0, 12, .inl k_wide)), (a_high, .inl (cT 0, 12, .inl k_high)), (a_shape, .inl (cT 1, 12, .inr (.inl k_shape)))] U.heap ∧ va_K D vwCl (jT cT) U ∧ jNw U ∧ va_D (fun _ => True) [(a_t, .inr (0, [.int k_width, .int k_height, .int k_barges, .long k_walls, .long k_taken, .ref a_kind, .ref a_place, .ref a_length, .ref a_gate, .ref a_across, .ref a_wide, .ref a_high, .ref a_shape])), (a_kind, .inl (cT 0, 12, .inl k_kind)), (a_length, .inl (cT 0, 12, .inl k_length)), (a_across, .inl (cT 2, 12, .inl k_across)), (a_wide, .inl (cT 0, 12, .inl k_wide)), (a_high, .inl (cT 0, 12, .inl k_high)), (a_shape, .inl (cT 1, 12, .inr (.inl k_shape)))])) (va_Qv (fun _ : Unit => True) (fun (_ : Unit) t => va_P D vwCl [(a_t, .inr (0, [.int k_width, .int k_height, .int k_barges, .long k_walls, .long k_taken, .ref a_kind, .ref a_place, .ref a_length, .ref a_gate, .ref a_across, .ref a_wide, .ref a_high, .ref a_shape])), (a_kind, .inl (cT 0, 12, .inl k_kind)), (a_length, .inl (cT 0, 12, .inl k_length)), (a_across, .inl (cT 2, 12, .inl k_across)), (a_wide, .inl (cT 0, 12, .inl k_wide₉)), (a_high, .inl (cT 0, 12, .inl k_high₉)), (a_shape, .inl (cT 1, 12, .inr (.inl k_shape₉)))] t.heap ∧ va_K D vwCl (jT cT) t ∧ va_D (va_A [(a_t, .inr (0, [.int k_width, .int k_height, .int k_barges, .long k_walls, .long k_taken, .ref a_kind, .ref a_place, .ref a_length, .ref a_gate, .ref a_across, .ref a_wide, .ref a_high, .ref a_shape])), (a_kind, .inl (cT 0, 12, .inl k_kind)), (a_length, .inl (cT 0, 12, .inl k_length)), (a_across, .inl (cT 2, 12, .inl k_across)), (a_wide, .inl (cT 0, 12, .inl k_wide)), (a_high, .inl (cT 0, 12, .inl k_high)), (a_shape, .inl (cT 1, 12, .inr (.inl k_shape)))] sz) [(a_t, .inr (0, [.int k_width, .int k_height, .int k_barges, .long k_walls, .long k_taken, .ref a_kind, .ref a_place, .ref a_length, .ref a_gate, .ref a_across, .ref a_wide, .ref a_high, .ref a_shape])), (a_kind, .inl (cT 0, 12, .inl k_kind)), (a_length, .inl (cT 0, 12, .inl k_length)), (a_across, .inl (cT 2, 12, .inl k_across)), (a_wide, .inl (cT 0, 12, .inl k_wide₉)), (a_high, .inl (cT 0, 12, .inl k_high₉)), (a_shape, .inl (cT 1, 12, .inr (.inl k_shape₉)))]) (va_A [(a_t, .inr (0, [.int k_width, .int k_height, .int k_barges, .long k_walls, .long k_taken, .ref a_kind, .ref a_place, .ref a_length, .ref a_gate, .ref a_across, .ref a_wide, .ref a_high, .ref a_shape])), (a_kind, .inl (cT 0, 12, .inl k_kind)), (a_length, .inl (cT 0, 12, .inl k_length)), (a_across, .inl (cT 2, 12, .inl k_across)), (a_wide, .inl (cT 0, 12, .inl k_wide)), (a_high, .inl (cT 0, 12, .inl k_high)), (a_shape, .inl (cT 1, 12, .inr (.inl k_shape)))] sz)) 0 0 (va_A [(a_t, .inr (0, [.int k_width, .int k_height, .int k_barges, .long k_walls, .long k_taken, .ref a_kind, .ref a_place, .ref a_length, .ref a_gate, .ref a_across, .ref a_wide, .ref a_high, .ref a_shape])), (a_kind, .inl (cT 0, 12, .inl k_kind)), (a_length, .inl (cT 0, 12, .inl k_length)), (a_across, .inl (cT 2, 12, .inl k_across)), (a_wide, .inl (cT 0, 12, .inl k_wide)), (a_high, .inl (cT 0, 12, .inl k_high)), (a_shape, .inl (cT 1, 12, .inr (.inl k_shape)))] sz) := by
  refine Met.ofW (cc := cX0_form) (maxL := 2) (ret := none) (by decide) rfl ?_
  intro p e s m args below meth c s₁ B hml hv
  obtain ⟨rfl, hsz, hP, hK, hN, hD0⟩ := hv
  have hx := B.exec
  have hb := B.bytes
  have hr := B.returns
  have hts := atoms_spec (ws := wsX0_form) B.pre
  have hown : s.vm.findClass RX0 = some m.cls := findClass_of_methodNamed B.named
  have hlocks := B.notSynchronized
  subst hsz
  have hD := hD0.self (sz := s.heap.size)
  clear hD0
  generalize hAe : va_A [(a_t, .inr (0, [.int k_width, .int k_height, .int k_barges, .long k_walls, .long k_taken, .ref a_kind, .ref a_place, .ref a_length, .ref a_gate, .ref a_across, .ref a_wide, .ref a_high, .ref a_shape])), (a_kind, .inl (cT 0, 12, .inl k_kind)), (a_length, .inl (cT 0, 12, .inl k_length)), (a_across, .inl (cT 2, 12, .inl k_across)), (a_wide, .inl (cT 0, 12, .inl k_wide)), (a_high, .inl (cT 0, 12, .inl k_high)), (a_shape, .inl (cT 1, 12, .inr (.inl k_shape)))] s.heap.size = A at hD ⊢
  have hA : ∀ q : Nat, s.heap.size ≤ q → A q := fun q h => by rw [← hAe]; exact Or.inr h
  clear hAe
  have hl := lv_entry ([.ref a_t, .int v1]) (n := 2) (Nat.le_of_ble_eq_true rfl)
  rw [lg_entry_eq]
  generalize (lg_sl ([.ref a_t, .int v1]) ++ List.replicate (2 - (lg_sl ([.ref a_t, .int v1])).length) Slot.unset).toArray = ls at hl ⊢
  have hl : lv_has ls 2 [(0, .ref a_t), (1, .int v1)] := hl
  refine j_start (A := A) hP (fun H locs hP hS => ?_)
  unfold f_Chart_form at hf
  refine lv_aload_n hx hb dX0_form_0 rfl (lv_at hl 0 rfl) ?_
  refine va_get (D := D) (ci := 0) (v := .ref a_wide) (C := RX0) (T := TX0) (N := 13) hx hb hts iw_wsX0_form_X0 hown hK hP 0 rfl rfl 10 (by decide) (hts (.fieldLink RX0 28 "BargeBasin$Chart" "wide" "[I") (List.mem_of_getElem? (i := 1) (by decide +kernel))) (fun _ h9 => h9) rfl dX0_form_1 ?_
  refine lv_iload_n hx hb dX0_form_4 rfl (lv_at hl 1 rfl) ?_
  refine lv_aload_n hx hb dX0_form_5 rfl (lv_at hl 0 rfl) ?_
  refine va_get (D := D) (ci := 0) (v := .ref a_length) (C := RX0) (T := TX0) (N := 13) hx hb hts iw_wsX0_form_X0 hown hK hP 0 rfl rfl 7 (by decide) (hts (.fieldLink RX0 18 "BargeBasin$Chart" "length" "[I") (List.mem_of_getElem? (i := 2) (by decide +kernel))) (fun _ h9 => h9) rfl dX0_form_6 ?_
  refine lv_iload_n hx hb dX0_form_9 rfl (lv_at hl 1 rfl) ?_
  replace hf := ob_grd hf
  obtain ⟨hi_1, hf⟩ := hf
  refine va_iald hx hb hK hP 2 0 rfl rfl hi_1 dX0_form_10 ?_
  refine lv_aload_n hx hb dX0_form_11 rfl (lv_at hl 0 rfl) ?_
  refine va_get (D := D) (ci := 0) (v := .ref a_across) (C := RX0) (T := TX0) (N := 13) hx hb hts iw_wsX0_form_X0 hown hK hP 0 rfl rfl 9 (by decide) (hts (.fieldLink RX0 24 "BargeBasin$Chart" "across" "[Z") (List.mem_of_getElem? (i := 3) (by decide +kernel))) (fun _ h9 => h9) rfl dX0_form_12 ?_
  refine lv_iload_n hx hb dX0_form_15 rfl (lv_at hl 1 rfl) ?_
  replace hf := ob_grd hf
  obtain ⟨hi_2, hf⟩ := hf
  refine va_zald hx hb hK hP 3 2 rfl rfl hi_2 dX0_form_16 ?_
  replace hf := ob_b hf
  obtain ⟨zr_3, hc_4, hf⟩ := hf
  refine vp_callSi (W.runS (As := [.int (k_length v1.toNatClampNeg), .int (k_across v1.toNatClampNeg)]) (rest := [.int v1, .ref a_wide]) ⟨hx, hb, hml, hown, hts⟩ (c_f_Chart_wideOf l D cT (k_length v1.toNatClampNeg) (k_across v1.toNatClampNeg) _ hc_4) (cwS 2 hts gX0_form_X0_wideOf rfl rfl rfl (by decide +kernel) ⟨Nat.le_of_ble_eq_true rfl, Nat.le_of_ble_eq_true rfl⟩) ⟨fun a U g mk q => q, fun U hU hW => ⟨rfl, trivial⟩⟩ rfl rfl hl.1 rfl (lv_room (Nat.le_of_ble_eq_true rfl)) dX0_form_17 ⟨Nat.le_of_ble_eq_true rfl, Nat.le_of_ble_eq_true rfl⟩) (fun r_3 er_5 => ?_)
  subst er_5
  replace hf := ob_grd hf
  obtain ⟨hi_6, hf⟩ := hf
  refine va_iast hx hb hK hP hD hS 4 0 rfl rfl hi_6 dX0_form_20 (fun H locs hP hD hS => ?_)
  replace hP : va_P D vwCl [(a_t, .inr (0, [.int k_width, .int k_height, .int k_barges, .long k_walls, .long k_taken, .ref a_kind, .ref a_place, .ref a_length, .ref a_gate, .ref a_across, .ref a_wide, .ref a_high, .ref a_shape])), (a_kind, .inl (cT 0, 12, .inl k_kind)), (a_length, .inl (cT 0, 12, .inl k_length)), (a_across, .inl (cT 2, 12, .inl k_across)), (a_wide, .inl (cT 0, 12, .inl (upd k_wide v1.toNatClampNeg r_3))), (a_high, .inl (cT 0, 12, .inl k_high)), (a_shape, .inl (cT 1, 12, .inr (.inl k_shape)))] H := hP
  replace hD : va_D A [(a_t, .inr (0, [.int k_width, .int k_height, .int k_barges, .long k_walls, .long k_taken, .ref a_kind, .ref a_place, .ref a_length, .ref a_gate, .ref a_across, .ref a_wide, .ref a_high, .ref a_shape])), (a_kind, .inl (cT 0, 12, .inl k_kind)), (a_length, .inl (cT 0, 12, .inl k_length)), (a_across, .inl (cT 2, 12, .inl k_across)), (a_wide, .inl (cT 0, 12, .inl (upd k_wide v1.toNatClampNeg r_3))), (a_high, .inl (cT 0, 12, .inl k_high)), (a_shape, .inl (cT 1, 12, .inr (.inl k_shape)))] := hD
  refine lv_aload_n hx hb dX0_form_21 rfl (lv_at hl 0 rfl) ?_
  refine va_get (D := D) (ci := 0) (v := .ref a_high) (C := RX0) (T := TX0) (N := 13) hx hb hts iw_wsX0_form_X0 hown hK hP 0 rfl rfl 11 (by decide) (hts (.fieldLink RX0 31 "BargeBasin$Chart" "high" "[I") (List.mem_of_getElem? (i := 4) (by decide +kernel))) (fun _ h9 => h9) rfl dX0_form_22 ?_
  refine lv_iload_n hx hb dX0_form_25 rfl (lv_at hl 1 rfl) ?_
  refine lv_aload_n hx hb dX0_form_26 rfl (lv_at hl 0 rfl) ?_
  refine va_get (D := D) (ci := 0) (v := .ref a_kind) (C := RX0) (T := TX0) (N := 13) hx hb hts iw_wsX0_form_X0 hown hK hP 0 rfl rfl 5 (by decide) (hts (.fieldLink RX0 9 "BargeBasin$Chart" "kind" "[I") (List.mem_of_getElem? (i := 5) (by decide +kernel))) (fun _ h9 => h9) rfl dX0_form_27 ?_
  refine lv_iload_n hx hb dX0_form_30 rfl (lv_at hl 1 rfl) ?_
  replace hf := ob_grd hf
  obtain ⟨hi_7, hf⟩ := hf
  refine va_iald hx hb hK hP 1 0 rfl rfl hi_7 dX0_form_31 ?_
  refine lv_aload_n hx hb dX0_form_32 rfl (lv_at hl 0 rfl) ?_
  refine va_get (D := D) (ci := 0) (v := .ref a_length) (C := RX0) (T := TX0) (N := 13) hx hb hts iw_wsX0_form_X0 hown hK hP 0 rfl rfl 7 (by decide) (hts (.fieldLink RX0 18 "BargeBasin$Chart" "length" "[I") (List.mem_of_getElem? (i := 2) (by decide +kernel))) (fun _ h9 => h9) rfl dX0_form_33 ?_
  refine lv_iload_n hx hb dX0_form_36 rfl (lv_at hl 1 rfl) ?_
  replace hf := ob_grd hf
  obtain ⟨hi_8, hf⟩ := hf
  refine va_iald hx hb hK hP 2 0 rfl rfl hi_8 dX0_form_37 ?_
  refine lv_aload_n hx hb dX0_form_38 rfl (lv_at hl 0 rfl) ?_
  refine va_get (D := D) (ci := 0) (v := .ref a_across) (C := RX0) (T := TX0) (N := 13) hx hb hts iw_wsX0_form_X0 hown hK hP 0 rfl rfl 9 (by decide) (hts (.fieldLink RX0 24 "BargeBasin$Chart" "across" "[Z") (List.mem_of_getElem? (i := 3) (by decide +kernel))) (fun _ h9 => h9) rfl dX0_form_39 ?_
  refine lv_iload_n hx hb dX0_form_42 rfl (lv_at hl 1 rfl) ?_
  replace hf := ob_grd hf
  obtain ⟨hi_9, hf⟩ := hf
  refine va_zald hx hb hK hP 3 2 rfl rfl hi_9 dX0_form_43 ?_
  replace hf := ob_b hf
  obtain ⟨zr_10, hc_11, hf⟩ := hf
  refine vp_callSi (W.runS (As := [.int (k_kind v1.toNatClampNeg), .int (k_length v1.toNatClampNeg), .int (k_across v1.toNatClampNeg)]) (rest := [.int v1, .ref a_high]) ⟨hx, hb, hml, hown, hts⟩ (c_f_Chart_highOf l D cT (k_kind v1.toNatClampNeg) (k_length v1.toNatClampNeg) (k_across v1.toNatClampNeg) _ hc_11) (cwS 3 hts gX0_form_X0_highOf rfl rfl rfl (by decide +kernel) ⟨Nat.le_of_ble_eq_true rfl, Nat.le_of_ble_eq_true rfl⟩) ⟨fun a U g mk q => q, fun U hU hW => ⟨rfl, trivial⟩⟩ rfl rfl hl.1 rfl (lv_room (Nat.le_of_ble_eq_true rfl)) dX0_form_44 ⟨Nat.le_of_ble_eq_true rfl, Nat.le_of_ble_eq_true rfl⟩) (fun r_10 er_12 => ?_)
  subst er_12
  replace hf := ob_grd hf
  obtain ⟨hi_13, hf⟩ := hf
  refine va_iast hx hb hK hP hD hS 5 0 rfl rfl hi_13 dX0_form_47 (fun H locs hP hD hS => ?_)
  replace hP : va_P D vwCl [(a_t, .inr (0, [.int k_width, .int k_height, .int k_barges, .long k_walls, .long k_taken, .ref a_kind, .ref a_place, .ref a_length, .ref a_gate, .ref a_across, .ref a_wide, .ref a_high, .ref a_shape])), (a_kind, .inl (cT 0, 12, .inl k_kind)), (a_length, .inl (cT 0, 12, .inl k_length)), (a_across, .inl (cT 2, 12, .inl k_across)), (a_wide, .inl (cT 0, 12, .inl (upd k_wide v1.toNatClampNeg r_3))), (a_high, .inl (cT 0, 12, .inl (upd k_high v1.toNatClampNeg r_10))), (a_shape, .inl (cT 1, 12, .inr (.inl k_shape)))] H := hP
  replace hD : va_D A [(a_t, .inr (0, [.int k_width, .int k_height, .int k_barges, .long k_walls, .long k_taken, .ref a_kind, .ref a_place, .ref a_length, .ref a_gate, .ref a_across, .ref a_wide, .ref a_high, .ref a_shape])), (a_kind, .inl (cT 0, 12, .inl k_kind)), (a_length, .inl (cT 0, 12, .inl k_length)), (a_across, .inl (cT 2, 12, .inl k_across)), (a_wide, .inl (cT 0, 12, .inl (upd k_wide v1.toNatClampNeg r_3))), (a_high, .inl (cT 0, 12, .inl (upd k_high v1.toNatClampNeg r_10))), (a_shape, .inl (cT 1, 12, .inr (.inl k_shape)))] := hD
  refine lv_aload_n hx hb dX0_form_48 rfl (lv_at hl 0 rfl) ?_
  refine va_get (D := D) (ci := 0) (v := .ref a_shape) (C := RX0) (T := TX0) (N := 13) hx hb hts iw_wsX0_form_X0 hown hK hP 0 rfl rfl 12 (by decide) (hts (.fieldLink RX0 34 "BargeBasin$Chart" "shape" "[J") (List.mem_of_getElem? (i := 6) (by decide +kernel))) (fun _ h9 => h9) rfl dX0_form_49 ?_
  refine lv_iload_n hx hb dX0_form_52 rfl (lv_at hl 1 rfl) ?_
  refine lv_aload_n hx hb dX0_form_53 rfl (lv_at hl 0 rfl) ?_
  refine va_get (D := D) (ci := 0) (v := .ref a_wide) (C := RX0) (T := TX0) (N := 13) hx hb hts iw_wsX0_form_X0 hown hK hP 0 rfl rfl 10 (by decide) (hts (.fieldLink RX0 28 "BargeBasin$Chart" "wide" "[I") (List.mem_of_getElem? (i := 1) (by decide +kernel))) (fun _ h9 => h9) rfl dX0_form_54 ?_
  refine lv_iload_n hx hb dX0_form_57 rfl (lv_at hl 1 rfl) ?_
  replace hf := ob_grd hf
  obtain ⟨hi_14, hf⟩ := hf
  refine va_iald hx hb hK hP 4 0 rfl rfl hi_14 dX0_form_58 ?_
  refine lv_aload_n hx hb dX0_form_59 rfl (lv_at hl 0 rfl) ?_
  refine va_get (D := D) (ci := 0) (v := .ref a_high) (C := RX0) (T := TX0) (N := 13) hx hb hts iw_wsX0_form_X0 hown hK hP 0 rfl rfl 11 (by decide) (hts (.fieldLink RX0 31 "BargeBasin$Chart" "high" "[I") (List.mem_of_getElem? (i := 4) (by decide +kernel))) (fun _ h9 => h9) rfl dX0_form_60 ?_
  refine lv_iload_n hx hb dX0_form_63 rfl (lv_at hl 1 rfl) ?_
  replace hf := ob_grd hf
  obtain ⟨hi_15, hf⟩ := hf
  refine va_iald hx hb hK hP 5 0 rfl rfl hi_15 dX0_form_64 ?_
  replace hf := ob_b hf
  obtain ⟨zr_16, hc_17, hf⟩ := hf
  refine vp_callSl (W.runS (As := [.int ((upd k_wide v1.toNatClampNeg r_3) v1.toNatClampNeg), .int ((upd k_high v1.toNatClampNeg r_10) v1.toNatClampNeg)]) (rest := [.int v1, .ref a_shape]) ⟨hx, hb, hml, hown, hts⟩ (c_f_Chart_shapeOf l D cT ((upd k_wide v1.toNatClampNeg r_3) v1.toNatClampNeg) ((upd k_high v1.toNatClampNeg r_10) v1.toNatClampNeg) _ hc_17) (cwS 2 hts gX0_form_X0_shapeOf rfl rfl rfl (by decide +kernel) ⟨Nat.le_of_ble_eq_true rfl, Nat.le_of_ble_eq_true rfl⟩) ⟨fun a U g mk q => q, fun U hU hW => ⟨rfl, trivial⟩⟩ rfl rfl hl.1 rfl (lv_room (Nat.le_of_ble_eq_true rfl)) dX0_form_65 ⟨Nat.le_of_ble_eq_true rfl, Nat.le_of_ble_eq_true rfl⟩) (fun r_16 er_18 => ?_)
  subst er_18
  replace hf := ob_grd hf
  obtain ⟨hi_19, hf⟩ := hf
  refine va_last hx hb hK hP hD hS 6 1 rfl rfl hi_19 dX0_form_68 (fun H locs hP hD hS => ?_)
  replace hP : va_P D vwCl [(a_t, .inr (0, [.int k_width, .int k_height, .int k_barges, .long k_walls, .long k_taken, .ref a_kind, .ref a_place, .ref a_length, .ref a_gate, .ref a_across, .ref a_wide, .ref a_high, .ref a_shape])), (a_kind, .inl (cT 0, 12, .inl k_kind)), (a_length, .inl (cT 0, 12, .inl k_length)), (a_across, .inl (cT 2, 12, .inl k_across)), (a_wide, .inl (cT 0, 12, .inl (upd k_wide v1.toNatClampNeg r_3))), (a_high, .inl (cT 0, 12, .inl (upd k_high v1.toNatClampNeg r_10))), (a_shape, .inl (cT 1, 12, .inr (.inl (vp_updL k_shape v1.toNatClampNeg r_16))))] H := hP
  replace hD : va_D A [(a_t, .inr (0, [.int k_width, .int k_height, .int k_barges, .long k_walls, .long k_taken, .ref a_kind, .ref a_place, .ref a_length, .ref a_gate, .ref a_across, .ref a_wide, .ref a_high, .ref a_shape])), (a_kind, .inl (cT 0, 12, .inl k_kind)), (a_length, .inl (cT 0, 12, .inl k_length)), (a_across, .inl (cT 2, 12, .inl k_across)), (a_wide, .inl (cT 0, 12, .inl (upd k_wide v1.toNatClampNeg r_3))), (a_high, .inl (cT 0, 12, .inl (upd k_high v1.toNatClampNeg r_10))), (a_shape, .inl (cT 1, 12, .inr (.inl (vp_updL k_shape v1.toNatClampNeg r_16))))] := hD
  replace hf := ob_t3 hf
  obtain ⟨ee0, ee1, ee2⟩ := hf
  subst ee0
  subst ee1
  subst ee2
  exact W.vret hx hb hr (fun t ht hW => ⟨⟨(), rfl, trivial, by rw [ht]; exact hP, va_K.moved hW.alike hK, hD⟩, hS.F ht⟩) hS.2.2 dX0_form_69
theorem iw_wsX0_add_X0 : ∀ w ∈ wsX00, w ∈ wsX0_add := fun _ h => List.mem_cons_of_mem _ (List.mem_append_right _ h)
abbrev rm_Chart_add : Room := { frames := 2, cells := 0, slots := 0, locals := 47 }
set_option maxHeartbeats 4000000 in
set_option maxRecDepth 100000 in
theorem c_f_Chart_add (l : Launch) (D : va_G) (cT : Nat → ClassId) (sz : Nat) (a_t a_kind a_place a_length a_gate a_across a_wide a_high a_shape : Nat) (k_width : Int32) (k_height : Int32) (k_barges : Int32) (k_walls : Int64) (k_taken : Int64) (k_kind : Nat → Int32) (k_place : Nat → Int32) (k_length : Nat → Int32) (k_gate : Nat → Int32) (k_across : Nat → Int32) (k_wide : Nat → Int32) (k_high : Nat → Int32) (k_shape : Nat → Int64) (v1 : Int32) (v2 : Int32) (v3 : Int32) (v4 : Int32) (k_barges₉ : Int32) (k_taken₉ : Int64) (k_kind₉ : Nat → Int32) (k_place₉ : Nat → Int32) (k_length₉ : Nat → Int32) (k_gate₉ : Nat → Int32) (k_across₉ : Nat → Int32) (k_wide₉ : Nat → Int32) (k_high₉ : Nat → Int32) (k_shape₉ : Nat → Int64) (hf : f_Chart_add v1 v2 v3 v4 k_barges k_taken k_kind k_place k_length k_gate k_across k_wide k_high k_shape = some (k_barges₉, k_taken₉, k_kind₉, k_place₉, k_length₉, k_gate₉, k_across₉, k_wide₉, k_high₉, k_shape₉)) : Met l yX0_add wsX0_add rm_Chart_add (va_Pc [.ref a_t, .int v1, .int v2, .int v3, .int v4] (fun U => U.heap.size = sz ∧ va_P D vwCl [(a_t, .inr (0, [.int k_width, .int k_height, .int k_barges, .long k_walls, .long k_taken, .ref a_kind, .ref a_place, .ref a_length, .ref a_gate, .ref a_across, .ref a_wide, .ref a_high, .ref a_shape])), (a_kind, .inl (cT 0, 12, .inl k_kind)), (a_place, .inl (cT 0, 12, .inl k_place)), (a_length, .inl (cT 0, 12, .inl k_length)), (a_gate, .inl (cT 0, 12, .inl k_gate)), (a_across, .inl (cT 2, 12, .inl k_across)), (a_wide, .inl (cT 0, 12, .inl k_wide)), (a_high, .inl (cT 0, 12, .inl k_high)), (a_shape, .inl (cT 1, 12, .inr (.inl k_shape)))] U.heap ∧ va_K D vwCl (jT cT) U ∧ jNw U ∧ va_D (fun _ => True) [(a_t, .inr (0, [.int k_width, .int k_height, .int k_barges, .long k_walls, .long k_taken, .ref a_kind, .ref a_place, .ref a_length, .ref a_gate, .ref a_across, .ref a_wide, .ref a_high, .ref a_shape])), (a_kind, .inl (cT 0, 12, .inl k_kind)), (a_place, .inl (cT 0, 12, .inl k_place)), (a_length, .inl (cT 0, 12, .inl k_length)), (a_gate, .inl (cT 0, 12, .inl k_gate)), (a_across, .inl (cT 2, 12, .inl k_across)), (a_wide, .inl (cT 0, 12, .inl k_wide)), (a_high, .inl (cT 0, 12, .inl k_high)), (a_shape, .inl (cT 1, 12, .inr (.inl k_shape)))])) (va_Qv (fun _ : Unit => True) (fun (_ : Unit) t => va_P D vwCl [(a_t, .inr (0, [.int k_width, .int k_height, .int k_barges₉, .long k_walls, .long k_taken₉, .ref a_kind, .ref a_place, .ref a_length, .ref a_gate, .ref a_across, .ref a_wide, .ref a_high, .ref a_shape])), (a_kind, .inl (cT 0, 12, .inl k_kind₉)), (a_place, .inl (cT 0, 12, .inl k_place₉)), (a_length, .inl (cT 0, 12, .inl k_length₉)), (a_gate, .inl (cT 0, 12, .inl k_gate₉)), (a_across, .inl (cT 2, 12, .inl k_across₉)), (a_wide, .inl (cT 0, 12, .inl k_wide₉)), (a_high, .inl (cT 0, 12, .inl k_high₉)), (a_shape, .inl (cT 1, 12, .inr (.inl k_shape₉)))] t.heap ∧ va_K D vwCl (jT cT) t ∧ va_D (va_A [(a_t, .inr (0, [.int k_width, .int k_height, .int k_barges, .long k_walls, .long k_taken, .ref a_kind, .ref a_place, .ref a_length, .ref a_gate, .ref a_across, .ref a_wide, .ref a_high, .ref a_shape])), (a_kind, .inl (cT 0, 12, .inl k_kind)), (a_place, .inl (cT 0, 12, .inl k_place)), (a_length, .inl (cT 0, 12, .inl k_length)), (a_gate, .inl (cT 0, 12, .inl k_gate)), (a_across, .inl (cT 2, 12, .inl k_across)), (a_wide, .inl (cT 0, 12, .inl k_wide)), (a_high, .inl (cT 0, 12, .inl k_high)), (a_shape, .inl (cT 1, 12, .inr (.inl k_shape)))] sz) [(a_t, .inr (0, [.int k_width, .int k_height, .int k_barges₉, .long k_walls, .long k_taken₉, .ref a_kind, .ref a_place, .ref a_length, .ref a_gate, .ref a_across, .ref a_wide, .ref a_high, .ref a_shape])), (a_kind, .inl (cT 0, 12, .inl k_kind₉)), (a_place, .inl (cT 0, 12, .inl k_place₉)), (a_length, .inl (cT 0, 12, .inl k_length₉)), (a_gate, .inl (cT 0, 12, .inl k_gate₉)), (a_across, .inl (cT 2, 12, .inl k_across₉)), (a_wide, .inl (cT 0, 12, .inl k_wide₉)), (a_high, .inl (cT 0, 12, .inl k_high₉)), (a_shape, .inl (cT 1, 12, .inr (.inl k_shape₉)))]) (va_A [(a_t, .inr (0, [.int k_width, .int k_height, .int k_barges, .long k_walls, .long k_taken, .ref a_kind, .ref a_place, .ref a_length, .ref a_gate, .ref a_across, .ref a_wide, .ref a_high, .ref a_shape])), (a_kind, .inl (cT 0, 12, .inl k_kind)), (a_place, .inl (cT 0, 12, .inl k_place)), (a_length, .inl (cT 0, 12, .inl k_length)), (a_gate, .inl (cT 0, 12, .inl k_gate)), (a_across, .inl (cT 2, 12, .inl k_across)), (a_wide, .inl (cT 0, 12, .inl k_wide)), (a_high, .inl (cT 0, 12, .inl k_high)), (a_shape, .inl (cT 1, 12, .inr (.inl k_shape)))] sz)) 0 0 (va_A [(a_t, .inr (0, [.int k_width, .int k_height, .int k_barges, .long k_walls, .long k_taken, .ref a_kind, .ref a_place, .ref a_length, .ref a_gate, .ref a_across, .ref a_wide, .ref a_high, .ref a_shape])), (a_kind, .inl (cT 0, 12, .inl k_kind)), (a_place, .inl (cT 0, 12, .inl k_place)), (a_length, .inl (cT 0, 12, .inl k_length)), (a_gate, .inl (cT 0, 12, .inl k_gate)), (a_across, .inl (cT 2, 12, .inl k_across)), (a_wide, .inl (cT 0, 12, .inl k_wide)), (a_high, .inl (cT 0, 12, .inl k_high)), (a_shape, .inl (cT 1, 12, .inr (.inl k_shape)))] sz) := by
  refine Met.ofW (cc := cX0_add) (maxL := 5) (ret := none) (by decide) rfl ?_
  intro p e s m args below meth c s₁ B hml hv
  obtain ⟨rfl, hsz, hP, hK, hN, hD0⟩ := hv
  have hx := B.exec
  have hb := B.bytes
  have hr := B.returns
  have hts := atoms_spec (ws := wsX0_add) B.pre
  have hown : s.vm.findClass RX0 = some m.cls := findClass_of_methodNamed B.named
  have hlocks := B.notSynchronized
  subst hsz
  have hD := hD0.self (sz := s.heap.size)
  clear hD0
  generalize hAe : va_A [(a_t, .inr (0, [.int k_width, .int k_height, .int k_barges, .long k_walls, .long k_taken, .ref a_kind, .ref a_place, .ref a_length, .ref a_gate, .ref a_across, .ref a_wide, .ref a_high, .ref a_shape])), (a_kind, .inl (cT 0, 12, .inl k_kind)), (a_place, .inl (cT 0, 12, .inl k_place)), (a_length, .inl (cT 0, 12, .inl k_length)), (a_gate, .inl (cT 0, 12, .inl k_gate)), (a_across, .inl (cT 2, 12, .inl k_across)), (a_wide, .inl (cT 0, 12, .inl k_wide)), (a_high, .inl (cT 0, 12, .inl k_high)), (a_shape, .inl (cT 1, 12, .inr (.inl k_shape)))] s.heap.size = A at hD ⊢
  have hA : ∀ q : Nat, s.heap.size ≤ q → A q := fun q h => by rw [← hAe]; exact Or.inr h
  clear hAe
  have hl := lv_entry ([.ref a_t, .int v1, .int v2, .int v3, .int v4]) (n := 5) (Nat.le_of_ble_eq_true rfl)
  rw [lg_entry_eq]
  generalize (lg_sl ([.ref a_t, .int v1, .int v2, .int v3, .int v4]) ++ List.replicate (5 - (lg_sl ([.ref a_t, .int v1, .int v2, .int v3, .int v4])).length) Slot.unset).toArray = ls at hl ⊢
  have hl : lv_has ls 5 [(0, .ref a_t), (1, .int v1), (2, .int v2), (3, .int v3), (4, .int v4)] := hl
  refine j_start (A := A) hP (fun H locs hP hS => ?_)
  unfold f_Chart_add at hf
  refine lv_aload_n hx hb dX0_add_0 rfl (lv_at hl 0 rfl) ?_
  refine va_get (D := D) (ci := 0) (v := .int k_barges) (C := RX0) (T := TX0) (N := 13) hx hb hts iw_wsX0_add_X0 hown hK hP 0 rfl rfl 2 (by decide) (hts (.fieldLink RX0 52 "BargeBasin$Chart" "barges" "I") (List.mem_of_getElem? (i := 1) (by decide +kernel))) (fun _ h9 => h9) rfl dX0_add_1 ?_
  refine lv_bipush (v := 12) hx hb dX0_add_4 (by decide) ?_
  refine lv_icmp_lt (tgt := 10) hx hb dX0_add_6 (by decide) (fun c_1 => ?_) (fun c_1 => ?_)
  · replace hf := ob_pos c_1 hf
    refine lv_aload_n hx hb dX0_add_10 rfl (lv_at hl 0 rfl) ?_
    refine va_get (D := D) (ci := 0) (v := .ref a_kind) (C := RX0) (T := TX0) (N := 13) hx hb hts iw_wsX0_add_X0 hown hK hP 0 rfl rfl 5 (by decide) (hts (.fieldLink RX0 9 "BargeBasin$Chart" "kind" "[I") (List.mem_of_getElem? (i := 2) (by decide +kernel))) (fun _ h9 => h9) rfl dX0_add_11 ?_
    refine lv_aload_n hx hb dX0_add_14 rfl (lv_at hl 0 rfl) ?_
    refine va_get (D := D) (ci := 0) (v := .int k_barges) (C := RX0) (T := TX0) (N := 13) hx hb hts iw_wsX0_add_X0 hown hK hP 0 rfl rfl 2 (by decide) (hts (.fieldLink RX0 52 "BargeBasin$Chart" "barges" "I") (List.mem_of_getElem? (i := 1) (by decide +kernel))) (fun _ h9 => h9) rfl dX0_add_15 ?_
    refine lv_iload_n hx hb dX0_add_18 rfl (lv_at hl 1 rfl) ?_
    replace hf := ob_grd hf
    obtain ⟨hi_2, hf⟩ := hf
    refine va_iast hx hb hK hP hD hS 1 0 rfl rfl hi_2 dX0_add_19 (fun H locs hP hD hS => ?_)
    replace hP : va_P D vwCl [(a_t, .inr (0, [.int k_width, .int k_height, .int k_barges, .long k_walls, .long k_taken, .ref a_kind, .ref a_place, .ref a_length, .ref a_gate, .ref a_across, .ref a_wide, .ref a_high, .ref a_shape])), (a_kind, .inl (cT 0, 12, .inl (upd k_kind k_barges.toNatClampNeg v1))), (a_place, .inl (cT 0, 12, .inl k_place)), (a_length, .inl (cT 0, 12, .inl k_length)), (a_gate, .inl (cT 0, 12, .inl k_gate)), (a_across, .inl (cT 2, 12, .inl k_across)), (a_wide, .inl (cT 0, 12, .inl k_wide)), (a_high, .inl (cT 0, 12, .inl k_high)), (a_shape, .inl (cT 1, 12, .inr (.inl k_shape)))] H := hP
    replace hD : va_D A [(a_t, .inr (0, [.int k_width, .int k_height, .int k_barges, .long k_walls, .long k_taken, .ref a_kind, .ref a_place, .ref a_length, .ref a_gate, .ref a_across, .ref a_wide, .ref a_high, .ref a_shape])), (a_kind, .inl (cT 0, 12, .inl (upd k_kind k_barges.toNatClampNeg v1))), (a_place, .inl (cT 0, 12, .inl k_place)), (a_length, .inl (cT 0, 12, .inl k_length)), (a_gate, .inl (cT 0, 12, .inl k_gate)), (a_across, .inl (cT 2, 12, .inl k_across)), (a_wide, .inl (cT 0, 12, .inl k_wide)), (a_high, .inl (cT 0, 12, .inl k_high)), (a_shape, .inl (cT 1, 12, .inr (.inl k_shape)))] := hD
    refine lv_aload_n hx hb dX0_add_20 rfl (lv_at hl 0 rfl) ?_
    refine va_get (D := D) (ci := 0) (v := .ref a_place) (C := RX0) (T := TX0) (N := 13) hx hb hts iw_wsX0_add_X0 hown hK hP 0 rfl rfl 6 (by decide) (hts (.fieldLink RX0 15 "BargeBasin$Chart" "place" "[I") (List.mem_of_getElem? (i := 3) (by decide +kernel))) (fun _ h9 => h9) rfl dX0_add_21 ?_
    refine lv_aload_n hx hb dX0_add_24 rfl (lv_at hl 0 rfl) ?_
    refine va_get (D := D) (ci := 0) (v := .int k_barges) (C := RX0) (T := TX0) (N := 13) hx hb hts iw_wsX0_add_X0 hown hK hP 0 rfl rfl 2 (by decide) (hts (.fieldLink RX0 52 "BargeBasin$Chart" "barges" "I") (List.mem_of_getElem? (i := 1) (by decide +kernel))) (fun _ h9 => h9) rfl dX0_add_25 ?_
    refine lv_iload_n hx hb dX0_add_28 rfl (lv_at hl 2 rfl) ?_
    replace hf := ob_grd hf
    obtain ⟨hi_3, hf⟩ := hf
    refine va_iast hx hb hK hP hD hS 2 0 rfl rfl hi_3 dX0_add_29 (fun H locs hP hD hS => ?_)
    replace hP : va_P D vwCl [(a_t, .inr (0, [.int k_width, .int k_height, .int k_barges, .long k_walls, .long k_taken, .ref a_kind, .ref a_place, .ref a_length, .ref a_gate, .ref a_across, .ref a_wide, .ref a_high, .ref a_shape])), (a_kind, .inl (cT 0, 12, .inl (upd k_kind k_barges.toNatClampNeg v1))), (a_place, .inl (cT 0, 12, .inl (upd k_place k_barges.toNatClampNeg v2))), (a_length, .inl (cT 0, 12, .inl k_length)), (a_gate, .inl (cT 0, 12, .inl k_gate)), (a_across, .inl (cT 2, 12, .inl k_across)), (a_wide, .inl (cT 0, 12, .inl k_wide)), (a_high, .inl (cT 0, 12, .inl k_high)), (a_shape, .inl (cT 1, 12, .inr (.inl k_shape)))] H := hP
    replace hD : va_D A [(a_t, .inr (0, [.int k_width, .int k_height, .int k_barges, .long k_walls, .long k_taken, .ref a_kind, .ref a_place, .ref a_length, .ref a_gate, .ref a_across, .ref a_wide, .ref a_high, .ref a_shape])), (a_kind, .inl (cT 0, 12, .inl (upd k_kind k_barges.toNatClampNeg v1))), (a_place, .inl (cT 0, 12, .inl (upd k_place k_barges.toNatClampNeg v2))), (a_length, .inl (cT 0, 12, .inl k_length)), (a_gate, .inl (cT 0, 12, .inl k_gate)), (a_across, .inl (cT 2, 12, .inl k_across)), (a_wide, .inl (cT 0, 12, .inl k_wide)), (a_high, .inl (cT 0, 12, .inl k_high)), (a_shape, .inl (cT 1, 12, .inr (.inl k_shape)))] := hD
    refine lv_aload_n hx hb dX0_add_30 rfl (lv_at hl 0 rfl) ?_
    refine va_get (D := D) (ci := 0) (v := .ref a_length) (C := RX0) (T := TX0) (N := 13) hx hb hts iw_wsX0_add_X0 hown hK hP 0 rfl rfl 7 (by decide) (hts (.fieldLink RX0 18 "BargeBasin$Chart" "length" "[I") (List.mem_of_getElem? (i := 4) (by decide +kernel))) (fun _ h9 => h9) rfl dX0_add_31 ?_
    refine lv_aload_n hx hb dX0_add_34 rfl (lv_at hl 0 rfl) ?_
    refine va_get (D := D) (ci := 0) (v := .int k_barges) (C := RX0) (T := TX0) (N := 13) hx hb hts iw_wsX0_add_X0 hown hK hP 0 rfl rfl 2 (by decide) (hts (.fieldLink RX0 52 "BargeBasin$Chart" "barges" "I") (List.mem_of_getElem? (i := 1) (by decide +kernel))) (fun _ h9 => h9) rfl dX0_add_35 ?_
    refine lv_iload_n hx hb dX0_add_38 rfl (lv_at hl 3 rfl) ?_
    replace hf := ob_grd hf
    obtain ⟨hi_4, hf⟩ := hf
    refine va_iast hx hb hK hP hD hS 3 0 rfl rfl hi_4 dX0_add_39 (fun H locs hP hD hS => ?_)
    replace hP : va_P D vwCl [(a_t, .inr (0, [.int k_width, .int k_height, .int k_barges, .long k_walls, .long k_taken, .ref a_kind, .ref a_place, .ref a_length, .ref a_gate, .ref a_across, .ref a_wide, .ref a_high, .ref a_shape])), (a_kind, .inl (cT 0, 12, .inl (upd k_kind k_barges.toNatClampNeg v1))), (a_place, .inl (cT 0, 12, .inl (upd k_place k_barges.toNatClampNeg v2))), (a_length, .inl (cT 0, 12, .inl (upd k_length k_barges.toNatClampNeg v3))), (a_gate, .inl (cT 0, 12, .inl k_gate)), (a_across, .inl (cT 2, 12, .inl k_across)), (a_wide, .inl (cT 0, 12, .inl k_wide)), (a_high, .inl (cT 0, 12, .inl k_high)), (a_shape, .inl (cT 1, 12, .inr (.inl k_shape)))] H := hP
    replace hD : va_D A [(a_t, .inr (0, [.int k_width, .int k_height, .int k_barges, .long k_walls, .long k_taken, .ref a_kind, .ref a_place, .ref a_length, .ref a_gate, .ref a_across, .ref a_wide, .ref a_high, .ref a_shape])), (a_kind, .inl (cT 0, 12, .inl (upd k_kind k_barges.toNatClampNeg v1))), (a_place, .inl (cT 0, 12, .inl (upd k_place k_barges.toNatClampNeg v2))), (a_length, .inl (cT 0, 12, .inl (upd k_length k_barges.toNatClampNeg v3))), (a_gate, .inl (cT 0, 12, .inl k_gate)), (a_across, .inl (cT 2, 12, .inl k_across)), (a_wide, .inl (cT 0, 12, .inl k_wide)), (a_high, .inl (cT 0, 12, .inl k_high)), (a_shape, .inl (cT 1, 12, .inr (.inl k_shape)))] := hD
    refine lv_aload_n hx hb dX0_add_40 rfl (lv_at hl 0 rfl) ?_
    refine va_get (D := D) (ci := 0) (v := .ref a_gate) (C := RX0) (T := TX0) (N := 13) hx hb hts iw_wsX0_add_X0 hown hK hP 0 rfl rfl 8 (by decide) (hts (.fieldLink RX0 21 "BargeBasin$Chart" "gate" "[I") (List.mem_of_getElem? (i := 5) (by decide +kernel))) (fun _ h9 => h9) rfl dX0_add_41 ?_
    refine lv_aload_n hx hb dX0_add_44 rfl (lv_at hl 0 rfl) ?_
    refine va_get (D := D) (ci := 0) (v := .int k_barges) (C := RX0) (T := TX0) (N := 13) hx hb hts iw_wsX0_add_X0 hown hK hP 0 rfl rfl 2 (by decide) (hts (.fieldLink RX0 52 "BargeBasin$Chart" "barges" "I") (List.mem_of_getElem? (i := 1) (by decide +kernel))) (fun _ h9 => h9) rfl dX0_add_45 ?_
    refine lv_iload_n hx hb dX0_add_48 rfl (lv_at hl 2 rfl) ?_
    replace hf := ob_grd hf
    obtain ⟨hi_5, hf⟩ := hf
    refine va_iast hx hb hK hP hD hS 4 0 rfl rfl hi_5 dX0_add_49 (fun H locs hP hD hS => ?_)
    replace hP : va_P D vwCl [(a_t, .inr (0, [.int k_width, .int k_height, .int k_barges, .long k_walls, .long k_taken, .ref a_kind, .ref a_place, .ref a_length, .ref a_gate, .ref a_across, .ref a_wide, .ref a_high, .ref a_shape])), (a_kind, .inl (cT 0, 12, .inl (upd k_kind k_barges.toNatClampNeg v1))), (a_place, .inl (cT 0, 12, .inl (upd k_place k_barges.toNatClampNeg v2))), (a_length, .inl (cT 0, 12, .inl (upd k_length k_barges.toNatClampNeg v3))), (a_gate, .inl (cT 0, 12, .inl (upd k_gate k_barges.toNatClampNeg v2))), (a_across, .inl (cT 2, 12, .inl k_across)), (a_wide, .inl (cT 0, 12, .inl k_wide)), (a_high, .inl (cT 0, 12, .inl k_high)), (a_shape, .inl (cT 1, 12, .inr (.inl k_shape)))] H := hP
    replace hD : va_D A [(a_t, .inr (0, [.int k_width, .int k_height, .int k_barges, .long k_walls, .long k_taken, .ref a_kind, .ref a_place, .ref a_length, .ref a_gate, .ref a_across, .ref a_wide, .ref a_high, .ref a_shape])), (a_kind, .inl (cT 0, 12, .inl (upd k_kind k_barges.toNatClampNeg v1))), (a_place, .inl (cT 0, 12, .inl (upd k_place k_barges.toNatClampNeg v2))), (a_length, .inl (cT 0, 12, .inl (upd k_length k_barges.toNatClampNeg v3))), (a_gate, .inl (cT 0, 12, .inl (upd k_gate k_barges.toNatClampNeg v2))), (a_across, .inl (cT 2, 12, .inl k_across)), (a_wide, .inl (cT 0, 12, .inl k_wide)), (a_high, .inl (cT 0, 12, .inl k_high)), (a_shape, .inl (cT 1, 12, .inr (.inl k_shape)))] := hD
    refine lv_aload_n hx hb dX0_add_50 rfl (lv_at hl 0 rfl) ?_
    refine va_get (D := D) (ci := 0) (v := .ref a_across) (C := RX0) (T := TX0) (N := 13) hx hb hts iw_wsX0_add_X0 hown hK hP 0 rfl rfl 9 (by decide) (hts (.fieldLink RX0 24 "BargeBasin$Chart" "across" "[Z") (List.mem_of_getElem? (i := 6) (by decide +kernel))) (fun _ h9 => h9) rfl dX0_add_51 ?_
    refine lv_aload_n hx hb dX0_add_54 rfl (lv_at hl 0 rfl) ?_
    refine va_get (D := D) (ci := 0) (v := .int k_barges) (C := RX0) (T := TX0) (N := 13) hx hb hts iw_wsX0_add_X0 hown hK hP 0 rfl rfl 2 (by decide) (hts (.fieldLink RX0 52 "BargeBasin$Chart" "barges" "I") (List.mem_of_getElem? (i := 1) (by decide +kernel))) (fun _ h9 => h9) rfl dX0_add_55 ?_
    refine lv_iload hx hb dX0_add_58 (lv_at hl 4 rfl) ?_
    replace hf := ob_grd hf
    obtain ⟨hi_6, hf⟩ := hf
    refine va_zast hx hb hK hP hD hS 5 2 rfl rfl hi_6 dX0_add_60 (fun H locs hP hD hS => ?_)
    replace hP : va_P D vwCl [(a_t, .inr (0, [.int k_width, .int k_height, .int k_barges, .long k_walls, .long k_taken, .ref a_kind, .ref a_place, .ref a_length, .ref a_gate, .ref a_across, .ref a_wide, .ref a_high, .ref a_shape])), (a_kind, .inl (cT 0, 12, .inl (upd k_kind k_barges.toNatClampNeg v1))), (a_place, .inl (cT 0, 12, .inl (upd k_place k_barges.toNatClampNeg v2))), (a_length, .inl (cT 0, 12, .inl (upd k_length k_barges.toNatClampNeg v3))), (a_gate, .inl (cT 0, 12, .inl (upd k_gate k_barges.toNatClampNeg v2))), (a_across, .inl (cT 2, 12, .inl (upd k_across k_barges.toNatClampNeg (vp_nar .boolean v4)))), (a_wide, .inl (cT 0, 12, .inl k_wide)), (a_high, .inl (cT 0, 12, .inl k_high)), (a_shape, .inl (cT 1, 12, .inr (.inl k_shape)))] H := hP
    replace hD : va_D A [(a_t, .inr (0, [.int k_width, .int k_height, .int k_barges, .long k_walls, .long k_taken, .ref a_kind, .ref a_place, .ref a_length, .ref a_gate, .ref a_across, .ref a_wide, .ref a_high, .ref a_shape])), (a_kind, .inl (cT 0, 12, .inl (upd k_kind k_barges.toNatClampNeg v1))), (a_place, .inl (cT 0, 12, .inl (upd k_place k_barges.toNatClampNeg v2))), (a_length, .inl (cT 0, 12, .inl (upd k_length k_barges.toNatClampNeg v3))), (a_gate, .inl (cT 0, 12, .inl (upd k_gate k_barges.toNatClampNeg v2))), (a_across, .inl (cT 2, 12, .inl (upd k_across k_barges.toNatClampNeg (vp_nar .boolean v4)))), (a_wide, .inl (cT 0, 12, .inl k_wide)), (a_high, .inl (cT 0, 12, .inl k_high)), (a_shape, .inl (cT 1, 12, .inr (.inl k_shape)))] := hD
    refine lv_aload_n hx hb dX0_add_61 rfl (lv_at hl 0 rfl) ?_
    refine lv_aload_n hx hb dX0_add_62 rfl (lv_at hl 0 rfl) ?_
    refine va_get (D := D) (ci := 0) (v := .int k_barges) (C := RX0) (T := TX0) (N := 13) hx hb hts iw_wsX0_add_X0 hown hK hP 0 rfl rfl 2 (by decide) (hts (.fieldLink RX0 52 "BargeBasin$Chart" "barges" "I") (List.mem_of_getElem? (i := 1) (by decide +kernel))) (fun _ h9 => h9) rfl dX0_add_63 ?_
    replace hf := ob_b hf
    obtain ⟨⟨k_wide_7, k_high_8, k_shape_9⟩, hc_10, hf⟩ := hf
    replace hf := ob_un3 hf
    have hPc := hP.sub (ws' := [(a_t, .inr (0, [.int k_width, .int k_height, .int k_barges, .long k_walls, .long k_taken, .ref a_kind, .ref a_place, .ref a_length, .ref a_gate, .ref a_across, .ref a_wide, .ref a_high, .ref a_shape])), (a_kind, .inl (cT 0, 12, .inl (upd k_kind k_barges.toNatClampNeg v1))), (a_length, .inl (cT 0, 12, .inl (upd k_length k_barges.toNatClampNeg v3))), (a_across, .inl (cT 2, 12, .inl (upd k_across k_barges.toNatClampNeg (vp_nar .boolean v4)))), (a_wide, .inl (cT 0, 12, .inl k_wide)), (a_high, .inl (cT 0, 12, .inl k_high)), (a_shape, .inl (cT 1, 12, .inr (.inl k_shape)))]) [0, 1, 3, 5, 6, 7, 8] rfl
    have hDc := hD.sub (ws' := [(a_t, .inr (0, [.int k_width, .int k_height, .int k_barges, .long k_walls, .long k_taken, .ref a_kind, .ref a_place, .ref a_length, .ref a_gate, .ref a_across, .ref a_wide, .ref a_high, .ref a_shape])), (a_kind, .inl (cT 0, 12, .inl (upd k_kind k_barges.toNatClampNeg v1))), (a_length, .inl (cT 0, 12, .inl (upd k_length k_barges.toNatClampNeg v3))), (a_across, .inl (cT 2, 12, .inl (upd k_across k_barges.toNatClampNeg (vp_nar .boolean v4)))), (a_wide, .inl (cT 0, 12, .inl k_wide)), (a_high, .inl (cT 0, 12, .inl k_high)), (a_shape, .inl (cT 1, 12, .inr (.inl k_shape)))]) [0, 1, 3, 5, 6, 7, 8] (by decide) rfl
    have hFc := va_free (wc := [(a_t, .inr (0, [.int k_width, .int k_height, .int k_barges, .long k_walls, .long k_taken, .ref a_kind, .ref a_place, .ref a_length, .ref a_gate, .ref a_across, .ref a_wide, .ref a_high, .ref a_shape])), (a_kind, .inl (cT 0, 12, .inl (upd k_kind k_barges.toNatClampNeg v1))), (a_length, .inl (cT 0, 12, .inl (upd k_length k_barges.toNatClampNeg v3))), (a_across, .inl (cT 2, 12, .inl (upd k_across k_barges.toNatClampNeg (vp_nar .boolean v4)))), (a_wide, .inl (cT 0, 12, .inl k_wide)), (a_high, .inl (cT 0, 12, .inl k_high)), (a_shape, .inl (cT 1, 12, .inr (.inl k_shape)))]) hD hS hA [0, 1, 3, 5, 6, 7, 8] rfl
    refine va_callv (va_runV (As := [.int k_barges]) (rest := []) ⟨hx, hb, hml, hown, hts⟩ (c_f_Chart_form l D cT H.size a_t a_kind a_place a_length a_gate a_across a_wide a_high a_shape k_width k_height k_barges k_walls k_taken (upd k_kind k_barges.toNatClampNeg v1) (upd k_length k_barges.toNatClampNeg v3) (upd k_across k_barges.toNatClampNeg (vp_nar .boolean v4)) k_wide k_high k_shape k_barges _ _ _ hc_10) (cwV 1 hts gX0_add_X0_form rfl rfl rfl (by decide +kernel) ⟨Nat.le_of_ble_eq_true rfl, Nat.le_of_ble_eq_true rfl⟩) ⟨fun a U g mk q => by obtain ⟨q0, q1, qP, qK, qN, qD⟩ := q; exact ⟨q0, q1, qP, va_K.moved (u := U) (U := U.calling g mk a) (Vm.Alike.refl U.vm) qK, jNw_same (u := U) (U := U.calling g mk a) rfl qN, qD⟩, va_recv hK hP (ci := 0) (q0 := 0) rfl rfl, fun U hU hW => ⟨rfl, by rw [hU], by rw [hU]; exact hPc, va_K.moved hW.alike hK, jNw_warm hW hN, hDc.weaken (fun _ _ _ _ => trivial)⟩⟩ rfl rfl hl.1 rfl (lv_room (Nat.le_of_ble_eq_true rfl)) dX0_add_66 ⟨Nat.le_of_ble_eq_true rfl, Nat.le_of_ble_eq_true rfl⟩) hS (fun q _ h => hFc q h) hFc (fun u t H1 locs ht hvm er_11 hB hz1 hk1 hS => ?_)
    obtain ⟨hP1, hK1, hD1⟩ := hB
    rw [ht] at hP1
    have hPD := va_join (wr := [(a_place, .inl (cT 0, 12, .inl (upd k_place k_barges.toNatClampNeg v2))), (a_gate, .inl (cT 0, 12, .inl (upd k_gate k_barges.toNatClampNeg v2)))]) (w1 := [(a_t, .inr (0, [.int k_width, .int k_height, .int k_barges, .long k_walls, .long k_taken, .ref a_kind, .ref a_place, .ref a_length, .ref a_gate, .ref a_across, .ref a_wide, .ref a_high, .ref a_shape])), (a_kind, .inl (cT 0, 12, .inl (upd k_kind k_barges.toNatClampNeg v1))), (a_length, .inl (cT 0, 12, .inl (upd k_length k_barges.toNatClampNeg v3))), (a_across, .inl (cT 2, 12, .inl (upd k_across k_barges.toNatClampNeg (vp_nar .boolean v4)))), (a_wide, .inl (cT 0, 12, .inl k_wide_7)), (a_high, .inl (cT 0, 12, .inl k_high_8)), (a_shape, .inl (cT 1, 12, .inr (.inl k_shape_9)))]) hP hD [0, 1, 3, 5, 6, 7, 8] [2, 4] rfl rfl (by decide) (by decide) hk1 hFc hP1 hD1
    clear hP hD
    obtain ⟨hP, hD⟩ := hPD
    replace hP := hP.sub (ws' := [(a_t, .inr (0, [.int k_width, .int k_height, .int k_barges, .long k_walls, .long k_taken, .ref a_kind, .ref a_place, .ref a_length, .ref a_gate, .ref a_across, .ref a_wide, .ref a_high, .ref a_shape])), (a_kind, .inl (cT 0, 12, .inl (upd k_kind k_barges.toNatClampNeg v1))), (a_place, .inl (cT 0, 12, .inl (upd k_place k_barges.toNatClampNeg v2))), (a_length, .inl (cT 0, 12, .inl (upd k_length k_barges.toNatClampNeg v3))), (a_gate, .inl (cT 0, 12, .inl (upd k_gate k_barges.toNatClampNeg v2))), (a_across, .inl (cT 2, 12, .inl (upd k_across k_barges.toNatClampNeg (vp_nar .boolean v4)))), (a_wide, .inl (cT 0, 12, .inl k_wide_7)), (a_high, .inl (cT 0, 12, .inl k_high_8)), (a_shape, .inl (cT 1, 12, .inr (.inl k_shape_9)))]) [2, 3, 0, 4, 1, 5, 6, 7, 8] rfl
    replace hD := hD.sub (ws' := [(a_t, .inr (0, [.int k_width, .int k_height, .int k_barges, .long k_walls, .long k_taken, .ref a_kind, .ref a_place, .ref a_length, .ref a_gate, .ref a_across, .ref a_wide, .ref a_high, .ref a_shape])), (a_kind, .inl (cT 0, 12, .inl (upd k_kind k_barges.toNatClampNeg v1))), (a_place, .inl (cT 0, 12, .inl (upd k_place k_barges.toNatClampNeg v2))), (a_length, .inl (cT 0, 12, .inl (upd k_length k_barges.toNatClampNeg v3))), (a_gate, .inl (cT 0, 12, .inl (upd k_gate k_barges.toNatClampNeg v2))), (a_across, .inl (cT 2, 12, .inl (upd k_across k_barges.toNatClampNeg (vp_nar .boolean v4)))), (a_wide, .inl (cT 0, 12, .inl k_wide_7)), (a_high, .inl (cT 0, 12, .inl k_high_8)), (a_shape, .inl (cT 1, 12, .inr (.inl k_shape_9)))]) [2, 3, 0, 4, 1, 5, 6, 7, 8] (by decide) rfl
    clear hPc hDc hFc hP1 hK1 hD1 hk1 hz1
    generalize H1 = H at hP hS ⊢
    refine lv_aload_n hx hb dX0_add_69 rfl (lv_at hl 0 rfl) ?_
    refine lv_dup hx hb dX0_add_70 rfl ?_
    refine va_get (D := D) (ci := 0) (v := .long k_taken) (C := RX0) (T := TX0) (N := 13) hx hb hts iw_wsX0_add_X0 hown hK hP 0 rfl rfl 4 (by decide) (hts (.fieldLink RX0 55 "BargeBasin$Chart" "taken" "J") (List.mem_of_getElem? (i := 7) (by decide +kernel))) (fun _ h9 => h9) rfl dX0_add_71 ?_
    refine lv_aload_n hx hb dX0_add_74 rfl (lv_at hl 0 rfl) ?_
    refine lv_aload_n hx hb dX0_add_75 rfl (lv_at hl 0 rfl) ?_
    refine va_get (D := D) (ci := 0) (v := .int k_barges) (C := RX0) (T := TX0) (N := 13) hx hb hts iw_wsX0_add_X0 hown hK hP 0 rfl rfl 2 (by decide) (hts (.fieldLink RX0 52 "BargeBasin$Chart" "barges" "I") (List.mem_of_getElem? (i := 1) (by decide +kernel))) (fun _ h9 => h9) rfl dX0_add_76 ?_
    replace hf := ob_b hf
    obtain ⟨zr_12, hc_13, hf⟩ := hf
    refine vp_callSl (W.runV (As := [.int k_barges]) (rest := [.long k_taken, .ref a_t]) ⟨hx, hb, hml, hown, hts⟩ (c_f_Chart_fieldsOf l D cT a_t a_kind a_place a_length a_gate a_across a_wide a_high a_shape k_width k_height k_barges k_walls k_taken (upd k_place k_barges.toNatClampNeg v2) k_shape_9 k_barges _ hc_13) (cwV 1 hts gX0_add_X0_fieldsOf rfl rfl rfl (by decide +kernel) ⟨Nat.le_of_ble_eq_true rfl, Nat.le_of_ble_eq_true rfl⟩) ⟨fun a U g mk q => by obtain ⟨q0, qP, qK, qN⟩ := q; exact ⟨q0, qP, va_K.moved (u := U) (U := U.calling g mk a) (Vm.Alike.refl U.vm) qK, jNw_same (u := U) (U := U.calling g mk a) rfl qN⟩, va_recv hK hP (ci := 0) (q0 := 0) rfl rfl, fun U hU hW => ⟨rfl, by rw [hU]; exact hP.sub [0, 2, 8] rfl, va_K.moved hW.alike hK, jNw_warm hW hN⟩⟩ rfl rfl hl.1 rfl (lv_room (Nat.le_of_ble_eq_true rfl)) dX0_add_79 ⟨Nat.le_of_ble_eq_true rfl, Nat.le_of_ble_eq_true rfl⟩) (fun r_12 er_14 => ?_)
    subst er_14
    refine lv_lor hx hb dX0_add_82 ?_
    refine lv_topl (fun w_15 ew_15 => ?_)
    replace hf := ob_nm ew_15 hf
    refine va_put (D := D) (ci := 0) (v := .long w_15) (ty := .long) (C := RX0) (T := TX0) (N := 13) hx hb hts iw_wsX0_add_X0 tyX0 tyX0_ok nmX0 hown hK hP hD hS 0 rfl rfl 4 (by decide) (hts (.fieldLink RX0 55 "BargeBasin$Chart" "taken" "J") (List.mem_of_getElem? (i := 7) (by decide +kernel))) (fun _ h9 => h9) rfl (by decide +kernel) rfl rfl (Nat.le_of_ble_eq_true rfl) dX0_add_83 (fun H locs hP hD hS => ?_)
    replace hP : va_P D vwCl [(a_t, .inr (0, [.int k_width, .int k_height, .int k_barges, .long k_walls, .long w_15, .ref a_kind, .ref a_place, .ref a_length, .ref a_gate, .ref a_across, .ref a_wide, .ref a_high, .ref a_shape])), (a_kind, .inl (cT 0, 12, .inl (upd k_kind k_barges.toNatClampNeg v1))), (a_place, .inl (cT 0, 12, .inl (upd k_place k_barges.toNatClampNeg v2))), (a_length, .inl (cT 0, 12, .inl (upd k_length k_barges.toNatClampNeg v3))), (a_gate, .inl (cT 0, 12, .inl (upd k_gate k_barges.toNatClampNeg v2))), (a_across, .inl (cT 2, 12, .inl (upd k_across k_barges.toNatClampNeg (vp_nar .boolean v4)))), (a_wide, .inl (cT 0, 12, .inl k_wide_7)), (a_high, .inl (cT 0, 12, .inl k_high_8)), (a_shape, .inl (cT 1, 12, .inr (.inl k_shape_9)))] H := hP
    replace hD : va_D A [(a_t, .inr (0, [.int k_width, .int k_height, .int k_barges, .long k_walls, .long w_15, .ref a_kind, .ref a_place, .ref a_length, .ref a_gate, .ref a_across, .ref a_wide, .ref a_high, .ref a_shape])), (a_kind, .inl (cT 0, 12, .inl (upd k_kind k_barges.toNatClampNeg v1))), (a_place, .inl (cT 0, 12, .inl (upd k_place k_barges.toNatClampNeg v2))), (a_length, .inl (cT 0, 12, .inl (upd k_length k_barges.toNatClampNeg v3))), (a_gate, .inl (cT 0, 12, .inl (upd k_gate k_barges.toNatClampNeg v2))), (a_across, .inl (cT 2, 12, .inl (upd k_across k_barges.toNatClampNeg (vp_nar .boolean v4)))), (a_wide, .inl (cT 0, 12, .inl k_wide_7)), (a_high, .inl (cT 0, 12, .inl k_high_8)), (a_shape, .inl (cT 1, 12, .inr (.inl k_shape_9)))] := hD
    refine lv_aload_n hx hb dX0_add_86 rfl (lv_at hl 0 rfl) ?_
    refine lv_dup hx hb dX0_add_87 rfl ?_
    refine va_get (D := D) (ci := 0) (v := .int k_barges) (C := RX0) (T := TX0) (N := 13) hx hb hts iw_wsX0_add_X0 hown hK hP 0 rfl rfl 2 (by decide) (hts (.fieldLink RX0 52 "BargeBasin$Chart" "barges" "I") (List.mem_of_getElem? (i := 1) (by decide +kernel))) (fun _ h9 => h9) rfl dX0_add_88 ?_
    refine lv_iconst (v := 1) hx hb dX0_add_91 (by decide) ?_
    refine lv_iadd hx hb dX0_add_92 ?_
    refine lv_topi (fun w_16 ew_16 => ?_)
    replace hf := ob_nm ew_16 hf
    refine va_put (D := D) (ci := 0) (v := .int w_16) (ty := .int) (C := RX0) (T := TX0) (N := 13) hx hb hts iw_wsX0_add_X0 tyX0 tyX0_ok nmX0 hown hK hP hD hS 0 rfl rfl 2 (by decide) (hts (.fieldLink RX0 52 "BargeBasin$Chart" "barges" "I") (List.mem_of_getElem? (i := 1) (by decide +kernel))) (fun _ h9 => h9) rfl (by decide +kernel) rfl rfl (Nat.le_of_ble_eq_true rfl) dX0_add_93 (fun H locs hP hD hS => ?_)
    replace hP : va_P D vwCl [(a_t, .inr (0, [.int k_width, .int k_height, .int w_16, .long k_walls, .long w_15, .ref a_kind, .ref a_place, .ref a_length, .ref a_gate, .ref a_across, .ref a_wide, .ref a_high, .ref a_shape])), (a_kind, .inl (cT 0, 12, .inl (upd k_kind k_barges.toNatClampNeg v1))), (a_place, .inl (cT 0, 12, .inl (upd k_place k_barges.toNatClampNeg v2))), (a_length, .inl (cT 0, 12, .inl (upd k_length k_barges.toNatClampNeg v3))), (a_gate, .inl (cT 0, 12, .inl (upd k_gate k_barges.toNatClampNeg v2))), (a_across, .inl (cT 2, 12, .inl (upd k_across k_barges.toNatClampNeg (vp_nar .boolean v4)))), (a_wide, .inl (cT 0, 12, .inl k_wide_7)), (a_high, .inl (cT 0, 12, .inl k_high_8)), (a_shape, .inl (cT 1, 12, .inr (.inl k_shape_9)))] H := hP
    replace hD : va_D A [(a_t, .inr (0, [.int k_width, .int k_height, .int w_16, .long k_walls, .long w_15, .ref a_kind, .ref a_place, .ref a_length, .ref a_gate, .ref a_across, .ref a_wide, .ref a_high, .ref a_shape])), (a_kind, .inl (cT 0, 12, .inl (upd k_kind k_barges.toNatClampNeg v1))), (a_place, .inl (cT 0, 12, .inl (upd k_place k_barges.toNatClampNeg v2))), (a_length, .inl (cT 0, 12, .inl (upd k_length k_barges.toNatClampNeg v3))), (a_gate, .inl (cT 0, 12, .inl (upd k_gate k_barges.toNatClampNeg v2))), (a_across, .inl (cT 2, 12, .inl (upd k_across k_barges.toNatClampNeg (vp_nar .boolean v4)))), (a_wide, .inl (cT 0, 12, .inl k_wide_7)), (a_high, .inl (cT 0, 12, .inl k_high_8)), (a_shape, .inl (cT 1, 12, .inr (.inl k_shape_9)))] := hD
    replace hf := ob_t10 hf
    obtain ⟨ee0, ee1, ee2, ee3, ee4, ee5, ee6, ee7, ee8, ee9⟩ := hf
    subst ee0
    subst ee1
    subst ee2
    subst ee3
    subst ee4
    subst ee5
    subst ee6
    subst ee7
    subst ee8
    subst ee9
    exact W.vret hx hb hr (fun t ht hW => ⟨⟨(), rfl, trivial, by rw [ht]; exact hP, va_K.moved hW.alike hK, hD⟩, hS.F ht⟩) hS.2.2 dX0_add_96
  · replace hf := ob_neg c_1 hf
    replace hf := ob_t10 hf
    obtain ⟨ee0, ee1, ee2, ee3, ee4, ee5, ee6, ee7, ee8, ee9⟩ := hf
    subst ee0
    subst ee1
    subst ee2
    subst ee3
    subst ee4
    subst ee5
    subst ee6
    subst ee7
    subst ee8
    subst ee9
    exact W.vret hx hb hr (fun t ht hW => ⟨⟨(), rfl, trivial, by rw [ht]; exact hP, va_K.moved hW.alike hK, hD⟩, hS.F ht⟩) hS.2.2 dX0_add_9
abbrev rm_Chart_copyBarge_e1 : Room := { frames := 0, cells := 0, slots := 0, locals := 0 }
set_option maxHeartbeats 4000000 in
set_option maxRecDepth 100000 in
theorem c_f_Chart_copyBarge_e1 (l : Launch) (D : va_G) (cT : Nat → ClassId) (sz : Nat) (a_t a_kind a_place a_length a_gate a_across a_wide a_high a_shape : Nat) (k_width : Int32) (k_height : Int32) (k_barges : Int32) (k_walls : Int64) (k_taken : Int64) (k_kind : Nat → Int32) (k_place : Nat → Int32) (k_length : Nat → Int32) (k_gate : Nat → Int32) (k_across : Nat → Int32) (k_wide : Nat → Int32) (k_high : Nat → Int32) (k_shape : Nat → Int64) (v2 : Int32) (v3 : Int32) (k_kind₉ : Nat → Int32) (k_place₉ : Nat → Int32) (k_length₉ : Nat → Int32) (k_gate₉ : Nat → Int32) (k_across₉ : Nat → Int32) (k_wide₉ : Nat → Int32) (k_high₉ : Nat → Int32) (k_shape₉ : Nat → Int64) (hf : f_Chart_copyBarge_e1 v2 v3 k_kind k_place k_length k_gate k_across k_wide k_high k_shape = some (k_kind₉, k_place₉, k_length₉, k_gate₉, k_across₉, k_wide₉, k_high₉, k_shape₉)) : Met l yX0_copyBarge wsX0_copyBarge rm_Chart_copyBarge_e1 (va_Pc [.ref a_t, .ref a_t, .int v2, .int v3] (fun U => U.heap.size = sz ∧ va_P D vwCl [(a_t, .inr (0, [.int k_width, .int k_height, .int k_barges, .long k_walls, .long k_taken, .ref a_kind, .ref a_place, .ref a_length, .ref a_gate, .ref a_across, .ref a_wide, .ref a_high, .ref a_shape])), (a_kind, .inl (cT 0, 12, .inl k_kind)), (a_place, .inl (cT 0, 12, .inl k_place)), (a_length, .inl (cT 0, 12, .inl k_length)), (a_gate, .inl (cT 0, 12, .inl k_gate)), (a_across, .inl (cT 2, 12, .inl k_across)), (a_wide, .inl (cT 0, 12, .inl k_wide)), (a_high, .inl (cT 0, 12, .inl k_high)), (a_shape, .inl (cT 1, 12, .inr (.inl k_shape)))] U.heap ∧ va_K D vwCl (jT cT) U ∧ jNw U ∧ va_D (fun _ => True) [(a_t, .inr (0, [.int k_width, .int k_height, .int k_barges, .long k_walls, .long k_taken, .ref a_kind, .ref a_place, .ref a_length, .ref a_gate, .ref a_across, .ref a_wide, .ref a_high, .ref a_shape])), (a_kind, .inl (cT 0, 12, .inl k_kind)), (a_place, .inl (cT 0, 12, .inl k_place)), (a_length, .inl (cT 0, 12, .inl k_length)), (a_gate, .inl (cT 0, 12, .inl k_gate)), (a_across, .inl (cT 2, 12, .inl k_across)), (a_wide, .inl (cT 0, 12, .inl k_wide)), (a_high, .inl (cT 0, 12, .inl k_high)), (a_shape, .inl (cT 1, 12, .inr (.inl k_shape)))])) (va_Qv (fun _ : Unit => True) (fun (_ : Unit) t => va_P D vwCl [(a_t, .inr (0, [.int k_width, .int k_height, .int k_barges, .long k_walls, .long k_taken, .ref a_kind, .ref a_place, .ref a_length, .ref a_gate, .ref a_across, .ref a_wide, .ref a_high, .ref a_shape])), (a_kind, .inl (cT 0, 12, .inl k_kind₉)), (a_place, .inl (cT 0, 12, .inl k_place₉)), (a_length, .inl (cT 0, 12, .inl k_length₉)), (a_gate, .inl (cT 0, 12, .inl k_gate₉)), (a_across, .inl (cT 2, 12, .inl k_across₉)), (a_wide, .inl (cT 0, 12, .inl k_wide₉)), (a_high, .inl (cT 0, 12, .inl k_high₉)), (a_shape, .inl (cT 1, 12, .inr (.inl k_shape₉)))] t.heap ∧ va_K D vwCl (jT cT) t ∧ va_D (va_A [(a_t, .inr (0, [.int k_width, .int k_height, .int k_barges, .long k_walls, .long k_taken, .ref a_kind, .ref a_place, .ref a_length, .ref a_gate, .ref a_across, .ref a_wide, .ref a_high, .ref a_shape])), (a_kind, .inl (cT 0, 12, .inl k_kind)), (a_place, .inl (cT 0, 12, .inl k_place)), (a_length, .inl (cT 0, 12, .inl k_length)), (a_gate, .inl (cT 0, 12, .inl k_gate)), (a_across, .inl (cT 2, 12, .inl k_across)), (a_wide, .inl (cT 0, 12, .inl k_wide)), (a_high, .inl (cT 0, 12, .inl k_high)), (a_shape, .inl (cT 1, 12, .inr (.inl k_shape)))] sz) [(a_t, .inr (0, [.int k_width, .int k_height, .int k_barges, .long k_walls, .long k_taken, .ref a_kind, .ref a_place, .ref a_length, .ref a_gate, .ref a_across, .ref a_wide, .ref a_high, .ref a_shape])), (a_kind, .inl (cT 0, 12, .inl k_kind₉)), (a_place, .inl (cT 0, 12, .inl k_place₉)), (a_length, .inl (cT 0, 12, .inl k_length₉)), (a_gate, .inl (cT 0, 12, .inl k_gate₉)), (a_across, .inl (cT 2, 12, .inl k_across₉)), (a_wide, .inl (cT 0, 12, .inl k_wide₉)), (a_high, .inl (cT 0, 12, .inl k_high₉)), (a_shape, .inl (cT 1, 12, .inr (.inl k_shape₉)))]) (va_A [(a_t, .inr (0, [.int k_width, .int k_height, .int k_barges, .long k_walls, .long k_taken, .ref a_kind, .ref a_place, .ref a_length, .ref a_gate, .ref a_across, .ref a_wide, .ref a_high, .ref a_shape])), (a_kind, .inl (cT 0, 12, .inl k_kind)), (a_place, .inl (cT 0, 12, .inl k_place)), (a_length, .inl (cT 0, 12, .inl k_length)), (a_gate, .inl (cT 0, 12, .inl k_gate)), (a_across, .inl (cT 2, 12, .inl k_across)), (a_wide, .inl (cT 0, 12, .inl k_wide)), (a_high, .inl (cT 0, 12, .inl k_high)), (a_shape, .inl (cT 1, 12, .inr (.inl k_shape)))] sz)) 0 0 (va_A [(a_t, .inr (0, [.int k_width, .int k_height, .int k_barges, .long k_walls, .long k_taken, .ref a_kind, .ref a_place, .ref a_length, .ref a_gate, .ref a_across, .ref a_wide, .ref a_high, .ref a_shape])), (a_kind, .inl (cT 0, 12, .inl k_kind)), (a_place, .inl (cT 0, 12, .inl k_place)), (a_length, .inl (cT 0, 12, .inl k_length)), (a_gate, .inl (cT 0, 12, .inl k_gate)), (a_across, .inl (cT 2, 12, .inl k_across)), (a_wide, .inl (cT 0, 12, .inl k_wide)), (a_high, .inl (cT 0, 12, .inl k_high)), (a_shape, .inl (cT 1, 12, .inr (.inl k_shape)))] sz) := by
  refine Met.ofW (cc := cX0_copyBarge) (maxL := 4) (ret := none) (by decide) rfl ?_
  intro p e s m args below meth c s₁ B hml hv
  obtain ⟨rfl, hsz, hP, hK, hN, hD0⟩ := hv
  have hx := B.exec
  have hb := B.bytes
  have hr := B.returns
  have hts := atoms_spec (ws := wsX0_copyBarge) B.pre
  have hown : s.vm.findClass RX0 = some m.cls := findClass_of_methodNamed B.named
  have hlocks := B.notSynchronized
  subst hsz
  have hD := hD0.self (sz := s.heap.size)
  clear hD0
  generalize hAe : va_A [(a_t, .inr (0, [.int k_width, .int k_height, .int k_barges, .long k_walls, .long k_taken, .ref a_kind, .ref a_place, .ref a_length, .ref a_gate, .ref a_across, .ref a_wide, .ref a_high, .ref a_shape])), (a_kind, .inl (cT 0, 12, .inl k_kind)), (a_place, .inl (cT 0, 12, .inl k_place)), (a_length, .inl (cT 0, 12, .inl k_length)), (a_gate, .inl (cT 0, 12, .inl k_gate)), (a_across, .inl (cT 2, 12, .inl k_across)), (a_wide, .inl (cT 0, 12, .inl k_wide)), (a_high, .inl (cT 0, 12, .inl k_high)), (a_shape, .inl (cT 1, 12, .inr (.inl k_shape)))] s.heap.size = A at hD ⊢
  have hA : ∀ q : Nat, s.heap.size ≤ q → A q := fun q h => by rw [← hAe]; exact Or.inr h
  clear hAe
  have hl := lv_entry ([.ref a_t, .ref a_t, .int v2, .int v3]) (n := 4) (Nat.le_of_ble_eq_true rfl)
  rw [lg_entry_eq]
  generalize (lg_sl ([.ref a_t, .ref a_t, .int v2, .int v3]) ++ List.replicate (4 - (lg_sl ([.ref a_t, .ref a_t, .int v2, .int v3])).length) Slot.unset).toArray = ls at hl ⊢
  have hl : lv_has ls 4 [(0, .ref a_t), (1, .ref a_t), (2, .int v2), (3, .int v3)] := hl
  refine j_start (A := A) hP (fun H locs hP hS => ?_)
  unfold f_Chart_copyBarge_e1 at hf
  refine lv_aload_n hx hb dX0_copyBarge_0 rfl (lv_at hl 0 rfl) ?_
  refine va_get (D := D) (ci := 0) (v := .ref a_kind) (C := RX0) (T := TX0) (N := 13) hx hb hts iw_wsX0_copyBarge_X0 hown hK hP 0 rfl rfl 5 (by decide) (hts (.fieldLink RX0 9 "BargeBasin$Chart" "kind" "[I") (List.mem_of_getElem? (i := 1) (by decide +kernel))) (fun _ h9 => h9) rfl dX0_copyBarge_1 ?_
  refine lv_iload_n hx hb dX0_copyBarge_4 rfl (lv_at hl 3 rfl) ?_
  refine lv_aload_n hx hb dX0_copyBarge_5 rfl (lv_at hl 1 rfl) ?_
  refine va_get (D := D) (ci := 0) (v := .ref a_kind) (C := RX0) (T := TX0) (N := 13) hx hb hts iw_wsX0_copyBarge_X0 hown hK hP 0 rfl rfl 5 (by decide) (hts (.fieldLink RX0 9 "BargeBasin$Chart" "kind" "[I") (List.mem_of_getElem? (i := 1) (by decide +kernel))) (fun _ h9 => h9) rfl dX0_copyBarge_6 ?_
  refine lv_iload_n hx hb dX0_copyBarge_9 rfl (lv_at hl 2 rfl) ?_
  replace hf := ob_grd hf
  obtain ⟨hi_1, hf⟩ := hf
  refine va_iald hx hb hK hP 1 0 rfl rfl hi_1 dX0_copyBarge_10 ?_
  refine lv_topi (fun w_2 ew_2 => ?_)
  replace hf := ob_nm ew_2 hf
  replace hf := ob_grd hf
  obtain ⟨hi_3, hf⟩ := hf
  refine va_iast hx hb hK hP hD hS 1 0 rfl rfl hi_3 dX0_copyBarge_11 (fun H locs hP hD hS => ?_)
  replace hP : va_P D vwCl [(a_t, .inr (0, [.int k_width, .int k_height, .int k_barges, .long k_walls, .long k_taken, .ref a_kind, .ref a_place, .ref a_length, .ref a_gate, .ref a_across, .ref a_wide, .ref a_high, .ref a_shape])), (a_kind, .inl (cT 0, 12, .inl (upd k_kind v3.toNatClampNeg w_2))), (a_place, .inl (cT 0, 12, .inl k_place)), (a_length, .inl (cT 0, 12, .inl k_length)), (a_gate, .inl (cT 0, 12, .inl k_gate)), (a_across, .inl (cT 2, 12, .inl k_across)), (a_wide, .inl (cT 0, 12, .inl k_wide)), (a_high, .inl (cT 0, 12, .inl k_high)), (a_shape, .inl (cT 1, 12, .inr (.inl k_shape)))] H := hP
  replace hD : va_D A [(a_t, .inr (0, [.int k_width, .int k_height, .int k_barges, .long k_walls, .long k_taken, .ref a_kind, .ref a_place, .ref a_length, .ref a_gate, .ref a_across, .ref a_wide, .ref a_high, .ref a_shape])), (a_kind, .inl (cT 0, 12, .inl (upd k_kind v3.toNatClampNeg w_2))), (a_place, .inl (cT 0, 12, .inl k_place)), (a_length, .inl (cT 0, 12, .inl k_length)), (a_gate, .inl (cT 0, 12, .inl k_gate)), (a_across, .inl (cT 2, 12, .inl k_across)), (a_wide, .inl (cT 0, 12, .inl k_wide)), (a_high, .inl (cT 0, 12, .inl k_high)), (a_shape, .inl (cT 1, 12, .inr (.inl k_shape)))] := hD
  refine lv_aload_n hx hb dX0_copyBarge_12 rfl (lv_at hl 0 rfl) ?_
  refine va_get (D := D) (ci := 0) (v := .ref a_place) (C := RX0) (T := TX0) (N := 13) hx hb hts iw_wsX0_copyBarge_X0 hown hK hP 0 rfl rfl 6 (by decide) (hts (.fieldLink RX0 15 "BargeBasin$Chart" "place" "[I") (List.mem_of_getElem? (i := 2) (by decide +kernel))) (fun _ h9 => h9) rfl dX0_copyBarge_13 ?_
  refine lv_iload_n hx hb dX0_copyBarge_16 rfl (lv_at hl 3 rfl) ?_
  refine lv_aload_n hx hb dX0_copyBarge_17 rfl (lv_at hl 1 rfl) ?_
  refine va_get (D := D) (ci := 0) (v := .ref a_place) (C := RX0) (T := TX0) (N := 13) hx hb hts iw_wsX0_copyBarge_X0 hown hK hP 0 rfl rfl 6 (by decide) (hts (.fieldLink RX0 15 "BargeBasin$Chart" "place" "[I") (List.mem_of_getElem? (i := 2) (by decide +kernel))) (fun _ h9 => h9) rfl dX0_copyBarge_18 ?_
  refine lv_iload_n hx hb dX0_copyBarge_21 rfl (lv_at hl 2 rfl) ?_
  replace hf := ob_grd hf
  obtain ⟨hi_4, hf⟩ := hf
  refine va_iald hx hb hK hP 2 0 rfl rfl hi_4 dX0_copyBarge_22 ?_
  refine lv_topi (fun w_5 ew_5 => ?_)
  replace hf := ob_nm ew_5 hf
  replace hf := ob_grd hf
  obtain ⟨hi_6, hf⟩ := hf
  refine va_iast hx hb hK hP hD hS 2 0 rfl rfl hi_6 dX0_copyBarge_23 (fun H locs hP hD hS => ?_)
  replace hP : va_P D vwCl [(a_t, .inr (0, [.int k_width, .int k_height, .int k_barges, .long k_walls, .long k_taken, .ref a_kind, .ref a_place, .ref a_length, .ref a_gate, .ref a_across, .ref a_wide, .ref a_high, .ref a_shape])), (a_kind, .inl (cT 0, 12, .inl (upd k_kind v3.toNatClampNeg w_2))), (a_place, .inl (cT 0, 12, .inl (upd k_place v3.toNatClampNeg w_5))), (a_length, .inl (cT 0, 12, .inl k_length)), (a_gate, .inl (cT 0, 12, .inl k_gate)), (a_across, .inl (cT 2, 12, .inl k_across)), (a_wide, .inl (cT 0, 12, .inl k_wide)), (a_high, .inl (cT 0, 12, .inl k_high)), (a_shape, .inl (cT 1, 12, .inr (.inl k_shape)))] H := hP
  replace hD : va_D A [(a_t, .inr (0, [.int k_width, .int k_height, .int k_barges, .long k_walls, .long k_taken, .ref a_kind, .ref a_place, .ref a_length, .ref a_gate, .ref a_across, .ref a_wide, .ref a_high, .ref a_shape])), (a_kind, .inl (cT 0, 12, .inl (upd k_kind v3.toNatClampNeg w_2))), (a_place, .inl (cT 0, 12, .inl (upd k_place v3.toNatClampNeg w_5))), (a_length, .inl (cT 0, 12, .inl k_length)), (a_gate, .inl (cT 0, 12, .inl k_gate)), (a_across, .inl (cT 2, 12, .inl k_across)), (a_wide, .inl (cT 0, 12, .inl k_wide)), (a_high, .inl (cT 0, 12, .inl k_high)), (a_shape, .inl (cT 1, 12, .inr (.inl k_shape)))] := hD
  refine lv_aload_n hx hb dX0_copyBarge_24 rfl (lv_at hl 0 rfl) ?_
  refine va_get (D := D) (ci := 0) (v := .ref a_length) (C := RX0) (T := TX0) (N := 13) hx hb hts iw_wsX0_copyBarge_X0 hown hK hP 0 rfl rfl 7 (by decide) (hts (.fieldLink RX0 18 "BargeBasin$Chart" "length" "[I") (List.mem_of_getElem? (i := 3) (by decide +kernel))) (fun _ h9 => h9) rfl dX0_copyBarge_25 ?_
  refine lv_iload_n hx hb dX0_copyBarge_28 rfl (lv_at hl 3 rfl) ?_
  refine lv_aload_n hx hb dX0_copyBarge_29 rfl (lv_at hl 1 rfl) ?_
  refine va_get (D := D) (ci := 0) (v := .ref a_length) (C := RX0) (T := TX0) (N := 13) hx hb hts iw_wsX0_copyBarge_X0 hown hK hP 0 rfl rfl 7 (by decide) (hts (.fieldLink RX0 18 "BargeBasin$Chart" "length" "[I") (List.mem_of_getElem? (i := 3) (by decide +kernel))) (fun _ h9 => h9) rfl dX0_copyBarge_30 ?_
  refine lv_iload_n hx hb dX0_copyBarge_33 rfl (lv_at hl 2 rfl) ?_
  replace hf := ob_grd hf
  obtain ⟨hi_7, hf⟩ := hf
  refine va_iald hx hb hK hP 3 0 rfl rfl hi_7 dX0_copyBarge_34 ?_
  refine lv_topi (fun w_8 ew_8 => ?_)
  replace hf := ob_nm ew_8 hf
  replace hf := ob_grd hf
  obtain ⟨hi_9, hf⟩ := hf
  refine va_iast hx hb hK hP hD hS 3 0 rfl rfl hi_9 dX0_copyBarge_35 (fun H locs hP hD hS => ?_)
  replace hP : va_P D vwCl [(a_t, .inr (0, [.int k_width, .int k_height, .int k_barges, .long k_walls, .long k_taken, .ref a_kind, .ref a_place, .ref a_length, .ref a_gate, .ref a_across, .ref a_wide, .ref a_high, .ref a_shape])), (a_kind, .inl (cT 0, 12, .inl (upd k_kind v3.toNatClampNeg w_2))), (a_place, .inl (cT 0, 12, .inl (upd k_place v3.toNatClampNeg w_5))), (a_length, .inl (cT 0, 12, .inl (upd k_length v3.toNatClampNeg w_8))), (a_gate, .inl (cT 0, 12, .inl k_gate)), (a_across, .inl (cT 2, 12, .inl k_across)), (a_wide, .inl (cT 0, 12, .inl k_wide)), (a_high, .inl (cT 0, 12, .inl k_high)), (a_shape, .inl (cT 1, 12, .inr (.inl k_shape)))] H := hP
  replace hD : va_D A [(a_t, .inr (0, [.int k_width, .int k_height, .int k_barges, .long k_walls, .long k_taken, .ref a_kind, .ref a_place, .ref a_length, .ref a_gate, .ref a_across, .ref a_wide, .ref a_high, .ref a_shape])), (a_kind, .inl (cT 0, 12, .inl (upd k_kind v3.toNatClampNeg w_2))), (a_place, .inl (cT 0, 12, .inl (upd k_place v3.toNatClampNeg w_5))), (a_length, .inl (cT 0, 12, .inl (upd k_length v3.toNatClampNeg w_8))), (a_gate, .inl (cT 0, 12, .inl k_gate)), (a_across, .inl (cT 2, 12, .inl k_across)), (a_wide, .inl (cT 0, 12, .inl k_wide)), (a_high, .inl (cT 0, 12, .inl k_high)), (a_shape, .inl (cT 1, 12, .inr (.inl k_shape)))] := hD
  refine lv_aload_n hx hb dX0_copyBarge_36 rfl (lv_at hl 0 rfl) ?_
  refine va_get (D := D) (ci := 0) (v := .ref a_gate) (C := RX0) (T := TX0) (N := 13) hx hb hts iw_wsX0_copyBarge_X0 hown hK hP 0 rfl rfl 8 (by decide) (hts (.fieldLink RX0 21 "BargeBasin$Chart" "gate" "[I") (List.mem_of_getElem? (i := 4) (by decide +kernel))) (fun _ h9 => h9) rfl dX0_copyBarge_37 ?_
  refine lv_iload_n hx hb dX0_copyBarge_40 rfl (lv_at hl 3 rfl) ?_
  refine lv_aload_n hx hb dX0_copyBarge_41 rfl (lv_at hl 1 rfl) ?_
  refine va_get (D := D) (ci := 0) (v := .ref a_gate) (C := RX0) (T := TX0) (N := 13) hx hb hts iw_wsX0_copyBarge_X0 hown hK hP 0 rfl rfl 8 (by decide) (hts (.fieldLink RX0 21 "BargeBasin$Chart" "gate" "[I") (List.mem_of_getElem? (i := 4) (by decide +kernel))) (fun _ h9 => h9) rfl dX0_copyBarge_42 ?_
  refine lv_iload_n hx hb dX0_copyBarge_45 rfl (lv_at hl 2 rfl) ?_
  replace hf := ob_grd hf
  obtain ⟨hi_10, hf⟩ := hf
  refine va_iald hx hb hK hP 4 0 rfl rfl hi_10 dX0_copyBarge_46 ?_
  refine lv_topi (fun w_11 ew_11 => ?_)
  replace hf := ob_nm ew_11 hf
  replace hf := ob_grd hf
  obtain ⟨hi_12, hf⟩ := hf
  refine va_iast hx hb hK hP hD hS 4 0 rfl rfl hi_12 dX0_copyBarge_47 (fun H locs hP hD hS => ?_)
  replace hP : va_P D vwCl [(a_t, .inr (0, [.int k_width, .int k_height, .int k_barges, .long k_walls, .long k_taken, .ref a_kind, .ref a_place, .ref a_length, .ref a_gate, .ref a_across, .ref a_wide, .ref a_high, .ref a_shape])), (a_kind, .inl (cT 0, 12, .inl (upd k_kind v3.toNatClampNeg w_2))), (a_place, .inl (cT 0, 12, .inl (upd k_place v3.toNatClampNeg w_5))), (a_length, .inl (cT 0, 12, .inl (upd k_length v3.toNatClampNeg w_8))), (a_gate, .inl (cT 0, 12, .inl (upd k_gate v3.toNatClampNeg w_11))), (a_across, .inl (cT 2, 12, .inl k_across)), (a_wide, .inl (cT 0, 12, .inl k_wide)), (a_high, .inl (cT 0, 12, .inl k_high)), (a_shape, .inl (cT 1, 12, .inr (.inl k_shape)))] H := hP
  replace hD : va_D A [(a_t, .inr (0, [.int k_width, .int k_height, .int k_barges, .long k_walls, .long k_taken, .ref a_kind, .ref a_place, .ref a_length, .ref a_gate, .ref a_across, .ref a_wide, .ref a_high, .ref a_shape])), (a_kind, .inl (cT 0, 12, .inl (upd k_kind v3.toNatClampNeg w_2))), (a_place, .inl (cT 0, 12, .inl (upd k_place v3.toNatClampNeg w_5))), (a_length, .inl (cT 0, 12, .inl (upd k_length v3.toNatClampNeg w_8))), (a_gate, .inl (cT 0, 12, .inl (upd k_gate v3.toNatClampNeg w_11))), (a_across, .inl (cT 2, 12, .inl k_across)), (a_wide, .inl (cT 0, 12, .inl k_wide)), (a_high, .inl (cT 0, 12, .inl k_high)), (a_shape, .inl (cT 1, 12, .inr (.inl k_shape)))] := hD
  refine lv_aload_n hx hb dX0_copyBarge_48 rfl (lv_at hl 0 rfl) ?_
  refine va_get (D := D) (ci := 0) (v := .ref a_across) (C := RX0) (T := TX0) (N := 13) hx hb hts iw_wsX0_copyBarge_X0 hown hK hP 0 rfl rfl 9 (by decide) (hts (.fieldLink RX0 24 "BargeBasin$Chart" "across" "[Z") (List.mem_of_getElem? (i := 5) (by decide +kernel))) (fun _ h9 => h9) rfl dX0_copyBarge_49 ?_
  refine lv_iload_n hx hb dX0_copyBarge_52 rfl (lv_at hl 3 rfl) ?_
  refine lv_aload_n hx hb dX0_copyBarge_53 rfl (lv_at hl 1 rfl) ?_
  refine va_get (D := D) (ci := 0) (v := .ref a_across) (C := RX0) (T := TX0) (N := 13) hx hb hts iw_wsX0_copyBarge_X0 hown hK hP 0 rfl rfl 9 (by decide) (hts (.fieldLink RX0 24 "BargeBasin$Chart" "across" "[Z") (List.mem_of_getElem? (i := 5) (by decide +kernel))) (fun _ h9 => h9) rfl dX0_copyBarge_54 ?_
  refine lv_iload_n hx hb dX0_copyBarge_57 rfl (lv_at hl 2 rfl) ?_
  replace hf := ob_grd hf
  obtain ⟨hi_13, hf⟩ := hf
  refine va_zald hx hb hK hP 5 2 rfl rfl hi_13 dX0_copyBarge_58 ?_
  refine lv_topi (fun w_14 ew_14 => ?_)
  replace hf := ob_nm ew_14 hf
  replace hf := ob_grd hf
  obtain ⟨hi_15, hf⟩ := hf
  refine va_zast hx hb hK hP hD hS 5 2 rfl rfl hi_15 dX0_copyBarge_59 (fun H locs hP hD hS => ?_)
  replace hP : va_P D vwCl [(a_t, .inr (0, [.int k_width, .int k_height, .int k_barges, .long k_walls, .long k_taken, .ref a_kind, .ref a_place, .ref a_length, .ref a_gate, .ref a_across, .ref a_wide, .ref a_high, .ref a_shape])), (a_kind, .inl (cT 0, 12, .inl (upd k_kind v3.toNatClampNeg w_2))), (a_place, .inl (cT 0, 12, .inl (upd k_place v3.toNatClampNeg w_5))), (a_length, .inl (cT 0, 12, .inl (upd k_length v3.toNatClampNeg w_8))), (a_gate, .inl (cT 0, 12, .inl (upd k_gate v3.toNatClampNeg w_11))), (a_across, .inl (cT 2, 12, .inl (upd k_across v3.toNatClampNeg (vp_nar .boolean w_14)))), (a_wide, .inl (cT 0, 12, .inl k_wide)), (a_high, .inl (cT 0, 12, .inl k_high)), (a_shape, .inl (cT 1, 12, .inr (.inl k_shape)))] H := hP
  replace hD : va_D A [(a_t, .inr (0, [.int k_width, .int k_height, .int k_barges, .long k_walls, .long k_taken, .ref a_kind, .ref a_place, .ref a_length, .ref a_gate, .ref a_across, .ref a_wide, .ref a_high, .ref a_shape])), (a_kind, .inl (cT 0, 12, .inl (upd k_kind v3.toNatClampNeg w_2))), (a_place, .inl (cT 0, 12, .inl (upd k_place v3.toNatClampNeg w_5))), (a_length, .inl (cT 0, 12, .inl (upd k_length v3.toNatClampNeg w_8))), (a_gate, .inl (cT 0, 12, .inl (upd k_gate v3.toNatClampNeg w_11))), (a_across, .inl (cT 2, 12, .inl (upd k_across v3.toNatClampNeg (vp_nar .boolean w_14)))), (a_wide, .inl (cT 0, 12, .inl k_wide)), (a_high, .inl (cT 0, 12, .inl k_high)), (a_shape, .inl (cT 1, 12, .inr (.inl k_shape)))] := hD
  refine lv_aload_n hx hb dX0_copyBarge_60 rfl (lv_at hl 0 rfl) ?_
  refine va_get (D := D) (ci := 0) (v := .ref a_wide) (C := RX0) (T := TX0) (N := 13) hx hb hts iw_wsX0_copyBarge_X0 hown hK hP 0 rfl rfl 10 (by decide) (hts (.fieldLink RX0 28 "BargeBasin$Chart" "wide" "[I") (List.mem_of_getElem? (i := 6) (by decide +kernel))) (fun _ h9 => h9) rfl dX0_copyBarge_61 ?_
  refine lv_iload_n hx hb dX0_copyBarge_64 rfl (lv_at hl 3 rfl) ?_
  refine lv_aload_n hx hb dX0_copyBarge_65 rfl (lv_at hl 1 rfl) ?_
  refine va_get (D := D) (ci := 0) (v := .ref a_wide) (C := RX0) (T := TX0) (N := 13) hx hb hts iw_wsX0_copyBarge_X0 hown hK hP 0 rfl rfl 10 (by decide) (hts (.fieldLink RX0 28 "BargeBasin$Chart" "wide" "[I") (List.mem_of_getElem? (i := 6) (by decide +kernel))) (fun _ h9 => h9) rfl dX0_copyBarge_66 ?_
  refine lv_iload_n hx hb dX0_copyBarge_69 rfl (lv_at hl 2 rfl) ?_
  replace hf := ob_grd hf
  obtain ⟨hi_16, hf⟩ := hf
  refine va_iald hx hb hK hP 6 0 rfl rfl hi_16 dX0_copyBarge_70 ?_
  refine lv_topi (fun w_17 ew_17 => ?_)
  replace hf := ob_nm ew_17 hf
  replace hf := ob_grd hf
  obtain ⟨hi_18, hf⟩ := hf
  refine va_iast hx hb hK hP hD hS 6 0 rfl rfl hi_18 dX0_copyBarge_71 (fun H locs hP hD hS => ?_)
  replace hP : va_P D vwCl [(a_t, .inr (0, [.int k_width, .int k_height, .int k_barges, .long k_walls, .long k_taken, .ref a_kind, .ref a_place, .ref a_length, .ref a_gate, .ref a_across, .ref a_wide, .ref a_high, .ref a_shape])), (a_kind, .inl (cT 0, 12, .inl (upd k_kind v3.toNatClampNeg w_2))), (a_place, .inl (cT 0, 12, .inl (upd k_place v3.toNatClampNeg w_5))), (a_length, .inl (cT 0, 12, .inl (upd k_length v3.toNatClampNeg w_8))), (a_gate, .inl (cT 0, 12, .inl (upd k_gate v3.toNatClampNeg w_11))), (a_across, .inl (cT 2, 12, .inl (upd k_across v3.toNatClampNeg (vp_nar .boolean w_14)))), (a_wide, .inl (cT 0, 12, .inl (upd k_wide v3.toNatClampNeg w_17))), (a_high, .inl (cT 0, 12, .inl k_high)), (a_shape, .inl (cT 1, 12, .inr (.inl k_shape)))] H := hP
  replace hD : va_D A [(a_t, .inr (0, [.int k_width, .int k_height, .int k_barges, .long k_walls, .long k_taken, .ref a_kind, .ref a_place, .ref a_length, .ref a_gate, .ref a_across, .ref a_wide, .ref a_high, .ref a_shape])), (a_kind, .inl (cT 0, 12, .inl (upd k_kind v3.toNatClampNeg w_2))), (a_place, .inl (cT 0, 12, .inl (upd k_place v3.toNatClampNeg w_5))), (a_length, .inl (cT 0, 12, .inl (upd k_length v3.toNatClampNeg w_8))), (a_gate, .inl (cT 0, 12, .inl (upd k_gate v3.toNatClampNeg w_11))), (a_across, .inl (cT 2, 12, .inl (upd k_across v3.toNatClampNeg (vp_nar .boolean w_14)))), (a_wide, .inl (cT 0, 12, .inl (upd k_wide v3.toNatClampNeg w_17))), (a_high, .inl (cT 0, 12, .inl k_high)), (a_shape, .inl (cT 1, 12, .inr (.inl k_shape)))] := hD
  refine lv_aload_n hx hb dX0_copyBarge_72 rfl (lv_at hl 0 rfl) ?_
  refine va_get (D := D) (ci := 0) (v := .ref a_high) (C := RX0) (T := TX0) (N := 13) hx hb hts iw_wsX0_copyBarge_X0 hown hK hP 0 rfl rfl 11 (by decide) (hts (.fieldLink RX0 31 "BargeBasin$Chart" "high" "[I") (List.mem_of_getElem? (i := 7) (by decide +kernel))) (fun _ h9 => h9) rfl dX0_copyBarge_73 ?_
  refine lv_iload_n hx hb dX0_copyBarge_76 rfl (lv_at hl 3 rfl) ?_
  refine lv_aload_n hx hb dX0_copyBarge_77 rfl (lv_at hl 1 rfl) ?_
  refine va_get (D := D) (ci := 0) (v := .ref a_high) (C := RX0) (T := TX0) (N := 13) hx hb hts iw_wsX0_copyBarge_X0 hown hK hP 0 rfl rfl 11 (by decide) (hts (.fieldLink RX0 31 "BargeBasin$Chart" "high" "[I") (List.mem_of_getElem? (i := 7) (by decide +kernel))) (fun _ h9 => h9) rfl dX0_copyBarge_78 ?_
  refine lv_iload_n hx hb dX0_copyBarge_81 rfl (lv_at hl 2 rfl) ?_
  replace hf := ob_grd hf
  obtain ⟨hi_19, hf⟩ := hf
  refine va_iald hx hb hK hP 7 0 rfl rfl hi_19 dX0_copyBarge_82 ?_
  refine lv_topi (fun w_20 ew_20 => ?_)
  replace hf := ob_nm ew_20 hf
  replace hf := ob_grd hf
  obtain ⟨hi_21, hf⟩ := hf
  refine va_iast hx hb hK hP hD hS 7 0 rfl rfl hi_21 dX0_copyBarge_83 (fun H locs hP hD hS => ?_)
  replace hP : va_P D vwCl [(a_t, .inr (0, [.int k_width, .int k_height, .int k_barges, .long k_walls, .long k_taken, .ref a_kind, .ref a_place, .ref a_length, .ref a_gate, .ref a_across, .ref a_wide, .ref a_high, .ref a_shape])), (a_kind, .inl (cT 0, 12, .inl (upd k_kind v3.toNatClampNeg w_2))), (a_place, .inl (cT 0, 12, .inl (upd k_place v3.toNatClampNeg w_5))), (a_length, .inl (cT 0, 12, .inl (upd k_length v3.toNatClampNeg w_8))), (a_gate, .inl (cT 0, 12, .inl (upd k_gate v3.toNatClampNeg w_11))), (a_across, .inl (cT 2, 12, .inl (upd k_across v3.toNatClampNeg (vp_nar .boolean w_14)))), (a_wide, .inl (cT 0, 12, .inl (upd k_wide v3.toNatClampNeg w_17))), (a_high, .inl (cT 0, 12, .inl (upd k_high v3.toNatClampNeg w_20))), (a_shape, .inl (cT 1, 12, .inr (.inl k_shape)))] H := hP
  replace hD : va_D A [(a_t, .inr (0, [.int k_width, .int k_height, .int k_barges, .long k_walls, .long k_taken, .ref a_kind, .ref a_place, .ref a_length, .ref a_gate, .ref a_across, .ref a_wide, .ref a_high, .ref a_shape])), (a_kind, .inl (cT 0, 12, .inl (upd k_kind v3.toNatClampNeg w_2))), (a_place, .inl (cT 0, 12, .inl (upd k_place v3.toNatClampNeg w_5))), (a_length, .inl (cT 0, 12, .inl (upd k_length v3.toNatClampNeg w_8))), (a_gate, .inl (cT 0, 12, .inl (upd k_gate v3.toNatClampNeg w_11))), (a_across, .inl (cT 2, 12, .inl (upd k_across v3.toNatClampNeg (vp_nar .boolean w_14)))), (a_wide, .inl (cT 0, 12, .inl (upd k_wide v3.toNatClampNeg w_17))), (a_high, .inl (cT 0, 12, .inl (upd k_high v3.toNatClampNeg w_20))), (a_shape, .inl (cT 1, 12, .inr (.inl k_shape)))] := hD
  refine lv_aload_n hx hb dX0_copyBarge_84 rfl (lv_at hl 0 rfl) ?_
  refine va_get (D := D) (ci := 0) (v := .ref a_shape) (C := RX0) (T := TX0) (N := 13) hx hb hts iw_wsX0_copyBarge_X0 hown hK hP 0 rfl rfl 12 (by decide) (hts (.fieldLink RX0 34 "BargeBasin$Chart" "shape" "[J") (List.mem_of_getElem? (i := 8) (by decide +kernel))) (fun _ h9 => h9) rfl dX0_copyBarge_85 ?_
  refine lv_iload_n hx hb dX0_copyBarge_88 rfl (lv_at hl 3 rfl) ?_
  refine lv_aload_n hx hb dX0_copyBarge_89 rfl (lv_at hl 1 rfl) ?_
  refine va_get (D := D) (ci := 0) (v := .ref a_shape) (C := RX0) (T := TX0) (N := 13) hx hb hts iw_wsX0_copyBarge_X0 hown hK hP 0 rfl rfl 12 (by decide) (hts (.fieldLink RX0 34 "BargeBasin$Chart" "shape" "[J") (List.mem_of_getElem? (i := 8) (by decide +kernel))) (fun _ h9 => h9) rfl dX0_copyBarge_90 ?_
  refine lv_iload_n hx hb dX0_copyBarge_93 rfl (lv_at hl 2 rfl) ?_
  replace hf := ob_grd hf
  obtain ⟨hi_22, hf⟩ := hf
  refine va_lald hx hb hK hP 8 1 rfl rfl hi_22 dX0_copyBarge_94 ?_
  refine lv_topl (fun w_23 ew_23 => ?_)
  replace hf := ob_nm ew_23 hf
  replace hf := ob_grd hf
  obtain ⟨hi_24, hf⟩ := hf
  refine va_last hx hb hK hP hD hS 8 1 rfl rfl hi_24 dX0_copyBarge_95 (fun H locs hP hD hS => ?_)
  replace hP : va_P D vwCl [(a_t, .inr (0, [.int k_width, .int k_height, .int k_barges, .long k_walls, .long k_taken, .ref a_kind, .ref a_place, .ref a_length, .ref a_gate, .ref a_across, .ref a_wide, .ref a_high, .ref a_shape])), (a_kind, .inl (cT 0, 12, .inl (upd k_kind v3.toNatClampNeg w_2))), (a_place, .inl (cT 0, 12, .inl (upd k_place v3.toNatClampNeg w_5))), (a_length, .inl (cT 0, 12, .inl (upd k_length v3.toNatClampNeg w_8))), (a_gate, .inl (cT 0, 12, .inl (upd k_gate v3.toNatClampNeg w_11))), (a_across, .inl (cT 2, 12, .inl (upd k_across v3.toNatClampNeg (vp_nar .boolean w_14)))), (a_wide, .inl (cT 0, 12, .inl (upd k_wide v3.toNatClampNeg w_17))), (a_high, .inl (cT 0, 12, .inl (upd k_high v3.toNatClampNeg w_20))), (a_shape, .inl (cT 1, 12, .inr (.inl (vp_updL k_shape v3.toNatClampNeg w_23))))] H := hP
  replace hD : va_D A [(a_t, .inr (0, [.int k_width, .int k_height, .int k_barges, .long k_walls, .long k_taken, .ref a_kind, .ref a_place, .ref a_length, .ref a_gate, .ref a_across, .ref a_wide, .ref a_high, .ref a_shape])), (a_kind, .inl (cT 0, 12, .inl (upd k_kind v3.toNatClampNeg w_2))), (a_place, .inl (cT 0, 12, .inl (upd k_place v3.toNatClampNeg w_5))), (a_length, .inl (cT 0, 12, .inl (upd k_length v3.toNatClampNeg w_8))), (a_gate, .inl (cT 0, 12, .inl (upd k_gate v3.toNatClampNeg w_11))), (a_across, .inl (cT 2, 12, .inl (upd k_across v3.toNatClampNeg (vp_nar .boolean w_14)))), (a_wide, .inl (cT 0, 12, .inl (upd k_wide v3.toNatClampNeg w_17))), (a_high, .inl (cT 0, 12, .inl (upd k_high v3.toNatClampNeg w_20))), (a_shape, .inl (cT 1, 12, .inr (.inl (vp_updL k_shape v3.toNatClampNeg w_23))))] := hD
  replace hf := ob_t8 hf
  obtain ⟨ee0, ee1, ee2, ee3, ee4, ee5, ee6, ee7⟩ := hf
  subst ee0
  subst ee1
  subst ee2
  subst ee3
  subst ee4
  subst ee5
  subst ee6
  subst ee7
  exact W.vret hx hb hr (fun t ht hW => ⟨⟨(), rfl, trivial, by rw [ht]; exact hP, va_K.moved hW.alike hK, hD⟩, hS.F ht⟩) hS.2.2 dX0_copyBarge_96
theorem iw_wsX0_drop_X0 : ∀ w ∈ wsX00, w ∈ wsX0_drop := fun _ h => List.mem_cons_of_mem _ (List.mem_append_right _ h)
abbrev rm_Chart_drop : Room := { frames := 1, cells := 0, slots := 0, locals := 23 }
set_option maxHeartbeats 4000000 in
set_option maxRecDepth 100000 in
theorem l_f_Chart_drop_L22 {p : Program} {l : Launch} {e : Env} {s : State} {m : MethodId} {args : Array Value} {below : List Frame} {meth : Method} {c : Code} {Q : State → Prop} {A : Nat → Prop} {D : va_G} {cT : Nat → ClassId} {a_t a_kind a_place a_length a_gate a_across a_wide a_high a_shape : Nat} {k_width : Int32} {k_height : Int32} {k_barges : Int32} {k_walls : Int64} {k_taken : Int64} (hx : p.tables.exec = Jvm.exec) (hb : c.code = cX0_drop) (hml : c.maxLocals = 3) (hown : s.vm.findClass RX0 = some m.cls) (hts : ∀ w ∈ wsX0_drop, w.before args s = true) (hK : va_K D vwCl (jT cT) s) (hN : jNw s) (hA : ∀ q : Nat, s.heap.size ≤ q → A q) : ∀ (n : Nat) (v2 : Int32) (k_kind : Nat → Int32) (k_place : Nat → Int32) (k_length : Nat → Int32) (k_gate : Nat → Int32) (k_across : Nat → Int32) (k_wide : Nat → Int32) (k_high : Nat → Int32) (k_shape : Nat → Int64) (ex : (Nat → Int32) × (Nat → Int32) × (Nat → Int32) × (Nat → Int32) × (Nat → Int32) × (Nat → Int32) × (Nat → Int32) × (Nat → Int64)), f_Chart_drop_L22 k_barges n v2 k_kind k_place k_length k_gate k_across k_wide k_high k_shape = some ex → ∀ (H : Heap) (locs : List Loc), va_P D vwCl [(a_t, .inr (0, [.int k_width, .int k_height, .int k_barges, .long k_walls, .long k_taken, .ref a_kind, .ref a_place, .ref a_length, .ref a_gate, .ref a_across, .ref a_wide, .ref a_high, .ref a_shape])), (a_kind, .inl (cT 0, 12, .inl k_kind)), (a_place, .inl (cT 0, 12, .inl k_place)), (a_length, .inl (cT 0, 12, .inl k_length)), (a_gate, .inl (cT 0, 12, .inl k_gate)), (a_across, .inl (cT 2, 12, .inl k_across)), (a_wide, .inl (cT 0, 12, .inl k_wide)), (a_high, .inl (cT 0, 12, .inl k_high)), (a_shape, .inl (cT 1, 12, .inr (.inl k_shape)))] H → va_D A [(a_t, .inr (0, [.int k_width, .int k_height, .int k_barges, .long k_walls, .long k_taken, .ref a_kind, .ref a_place, .ref a_length, .ref a_gate, .ref a_across, .ref a_wide, .ref a_high, .ref a_shape])), (a_kind, .inl (cT 0, 12, .inl k_kind)), (a_place, .inl (cT 0, 12, .inl k_place)), (a_length, .inl (cT 0, 12, .inl k_length)), (a_gate, .inl (cT 0, 12, .inl k_gate)), (a_across, .inl (cT 2, 12, .inl k_across)), (a_wide, .inl (cT 0, 12, .inl k_wide)), (a_high, .inl (cT 0, 12, .inl k_high)), (a_shape, .inl (cT 1, 12, .inr (.inl k_shape)))] → va_S A s.heap H locs → ∀ (ls : Array Slot), lv_has ls 3 [(0, .ref a_t), (2, .int v2)] → (∀ (k_kind_18 : Nat → Int32) (k_place_19 : Nat → Int32) (k_length_20 : Nat → Int32) (k_gate_21 : Nat → Int32) (k_across_22 : Nat → Int32) (k_wide_23 : Nat → Int32) (k_high_24 : Nat → Int32) (k_shape_25 : Nat → Int64), ex = (k_kind_18, k_place_19, k_length_20, k_gate_21, k_across_22, k_wide_23, k_high_24, k_shape_25) → ∀ (H : Heap) (locs : List Loc), va_P D vwCl [(a_t, .inr (0, [.int k_width, .int k_height, .int k_barges, .long k_walls, .long k_taken, .ref a_kind, .ref a_place, .ref a_length, .ref a_gate, .ref a_across, .ref a_wide, .ref a_high, .ref a_shape])), (a_kind, .inl (cT 0, 12, .inl k_kind_18)), (a_place, .inl (cT 0, 12, .inl k_place_19)), (a_length, .inl (cT 0, 12, .inl k_length_20)), (a_gate, .inl (cT 0, 12, .inl k_gate_21)), (a_across, .inl (cT 2, 12, .inl k_across_22)), (a_wide, .inl (cT 0, 12, .inl k_wide_23)), (a_high, .inl (cT 0, 12, .inl k_high_24)), (a_shape, .inl (cT 1, 12, .inr (.inl k_shape_25)))] H → va_D A [(a_t, .inr (0, [.int k_width, .int k_height, .int k_barges, .long k_walls, .long k_taken, .ref a_kind, .ref a_place, .ref a_length, .ref a_gate, .ref a_across, .ref a_wide, .ref a_high, .ref a_shape])), (a_kind, .inl (cT 0, 12, .inl k_kind_18)), (a_place, .inl (cT 0, 12, .inl k_place_19)), (a_length, .inl (cT 0, 12, .inl k_length_20)), (a_gate, .inl (cT 0, 12, .inl k_gate_21)), (a_across, .inl (cT 2, 12, .inl k_across_22)), (a_wide, .inl (cT 0, 12, .inl k_wide_23)), (a_high, .inl (cT 0, 12, .inl k_high_24)), (a_shape, .inl (cT 1, 12, .inr (.inl k_shape_25)))] → va_S A s.heap H locs → ∀ (ls : Array Slot), lv_has ls 3 [(0, .ref a_t)] → W p l e (headSpec wsX0_drop rm_Chart_drop).room s m args below meth c H locs 0 0 Q (F0 m 45 ls [])) → W p l e (headSpec wsX0_drop rm_Chart_drop).room s m args below meth c H locs 0 0 Q (F0 m 22 ls []) := by
  intro n
  induction n with
  | zero => intro v2 k_kind k_place k_length k_gate k_across k_wide k_high k_shape ex hf; exact (ob_none hf).elim
  | succ n ih =>
    intro v2 k_kind k_place k_length k_gate k_across k_wide k_high k_shape ex hf H locs hP hD hS ls hl K0
    rw [f_Chart_drop_L22] at hf
    refine lv_iload_n hx hb dX0_drop_22 rfl (lv_at hl 1 rfl) ?_
    refine lv_aload_n hx hb dX0_drop_23 rfl (lv_at hl 0 rfl) ?_
    refine va_get (D := D) (ci := 0) (v := .int k_barges) (C := RX0) (T := TX0) (N := 13) hx hb hts iw_wsX0_drop_X0 hown hK hP 0 rfl rfl 2 (by decide) (hts (.fieldLink RX0 52 "BargeBasin$Chart" "barges" "I") (List.mem_of_getElem? (i := 3) (by decide +kernel))) (fun _ h9 => h9) rfl dX0_drop_24 ?_
    refine lv_icmp_ge (tgt := 45) hx hb dX0_drop_27 (by decide) (fun c_6 => ?_) (fun c_6 => ?_)
    · replace hf := ob_pos c_6 hf
      cases hf
      exact K0 _ _ _ _ _ _ _ _ rfl _ _ hP hD hS ls (lv_sub hl [0] rfl)
    · replace hf := ob_neg c_6 hf
      refine lv_aload_n hx hb dX0_drop_30 rfl (lv_at hl 0 rfl) ?_
      refine lv_aload_n hx hb dX0_drop_31 rfl (lv_at hl 0 rfl) ?_
      refine lv_iload_n hx hb dX0_drop_32 rfl (lv_at hl 1 rfl) ?_
      refine lv_iload_n hx hb dX0_drop_33 rfl (lv_at hl 1 rfl) ?_
      refine lv_iconst (v := 1) hx hb dX0_drop_34 (by decide) ?_
      refine lv_isub hx hb dX0_drop_35 ?_
      replace hf := ob_b hf
      obtain ⟨⟨k_kind_7, k_place_8, k_length_9, k_gate_10, k_across_11, k_wide_12, k_high_13, k_shape_14⟩, hc_15, hf⟩ := hf
      replace hf := ob_un8 hf
      have hPc := hP.sub (ws' := [(a_t, .inr (0, [.int k_width, .int k_height, .int k_barges, .long k_walls, .long k_taken, .ref a_kind, .ref a_place, .ref a_length, .ref a_gate, .ref a_across, .ref a_wide, .ref a_high, .ref a_shape])), (a_kind, .inl (cT 0, 12, .inl k_kind)), (a_place, .inl (cT 0, 12, .inl k_place)), (a_length, .inl (cT 0, 12, .inl k_length)), (a_gate, .inl (cT 0, 12, .inl k_gate)), (a_across, .inl (cT 2, 12, .inl k_across)), (a_wide, .inl (cT 0, 12, .inl k_wide)), (a_high, .inl (cT 0, 12, .inl k_high)), (a_shape, .inl (cT 1, 12, .inr (.inl k_shape)))]) [0, 1, 2, 3, 4, 5, 6, 7, 8] rfl
      have hDc := hD.sub (ws' := [(a_t, .inr (0, [.int k_width, .int k_height, .int k_barges, .long k_walls, .long k_taken, .ref a_kind, .ref a_place, .ref a_length, .ref a_gate, .ref a_across, .ref a_wide, .ref a_high, .ref a_shape])), (a_kind, .inl (cT 0, 12, .inl k_kind)), (a_place, .inl (cT 0, 12, .inl k_place)), (a_length, .inl (cT 0, 12, .inl k_length)), (a_gate, .inl (cT 0, 12, .inl k_gate)), (a_across, .inl (cT 2, 12, .inl k_across)), (a_wide, .inl (cT 0, 12, .inl k_wide)), (a_high, .inl (cT 0, 12, .inl k_high)), (a_shape, .inl (cT 1, 12, .inr (.inl k_shape)))]) [0, 1, 2, 3, 4, 5, 6, 7, 8] (by decide) rfl
      have hFc := va_free (wc := [(a_t, .inr (0, [.int k_width, .int k_height, .int k_barges, .long k_walls, .long k_taken, .ref a_kind, .ref a_place, .ref a_length, .ref a_gate, .ref a_across, .ref a_wide, .ref a_high, .ref a_shape])), (a_kind, .inl (cT 0, 12, .inl k_kind)), (a_place, .inl (cT 0, 12, .inl k_place)), (a_length, .inl (cT 0, 12, .inl k_length)), (a_gate, .inl (cT 0, 12, .inl k_gate)), (a_across, .inl (cT 2, 12, .inl k_across)), (a_wide, .inl (cT 0, 12, .inl k_wide)), (a_high, .inl (cT 0, 12, .inl k_high)), (a_shape, .inl (cT 1, 12, .inr (.inl k_shape)))]) hD hS hA [0, 1, 2, 3, 4, 5, 6, 7, 8] rfl
      refine va_callv (va_runV (As := [.ref a_t, .int v2, .int (v2 - ((1 : Int32)))]) (rest := []) ⟨hx, hb, hml, hown, hts⟩ (c_f_Chart_copyBarge_e1 l D cT H.size a_t a_kind a_place a_length a_gate a_across a_wide a_high a_shape k_width k_height k_barges k_walls k_taken k_kind k_place k_length k_gate k_across k_wide k_high k_shape v2 (v2 - ((1 : Int32))) _ _ _ _ _ _ _ _ hc_15) (cwV 3 hts gX0_drop_X0_copyBarge rfl rfl rfl (by decide +kernel) ⟨Nat.le_of_ble_eq_true rfl, Nat.le_of_ble_eq_true rfl⟩) ⟨fun a U g mk q => by obtain ⟨q0, q1, qP, qK, qN, qD⟩ := q; exact ⟨q0, q1, qP, va_K.moved (u := U) (U := U.calling g mk a) (Vm.Alike.refl U.vm) qK, jNw_same (u := U) (U := U.calling g mk a) rfl qN, qD⟩, va_recv hK hP (ci := 0) (q0 := 0) rfl rfl, fun U hU hW => ⟨rfl, by rw [hU], by rw [hU]; exact hPc, va_K.moved hW.alike hK, jNw_warm hW hN, hDc.weaken (fun _ _ _ _ => trivial)⟩⟩ rfl rfl hl.1 rfl (lv_room (Nat.le_of_ble_eq_true rfl)) dX0_drop_36 ⟨Nat.le_of_ble_eq_true rfl, Nat.le_of_ble_eq_true rfl⟩) hS (fun q _ h => hFc q h) hFc (fun u t H1 locs ht hvm er_16 hB hz1 hk1 hS => ?_)
      obtain ⟨hP1, hK1, hD1⟩ := hB
      rw [ht] at hP1
      have hPD := va_join (wr := []) (w1 := [(a_t, .inr (0, [.int k_width, .int k_height, .int k_barges, .long k_walls, .long k_taken, .ref a_kind, .ref a_place, .ref a_length, .ref a_gate, .ref a_across, .ref a_wide, .ref a_high, .ref a_shape])), (a_kind, .inl (cT 0, 12, .inl k_kind_7)), (a_place, .inl (cT 0, 12, .inl k_place_8)), (a_length, .inl (cT 0, 12, .inl k_length_9)), (a_gate, .inl (cT 0, 12, .inl k_gate_10)), (a_across, .inl (cT 2, 12, .inl k_across_11)), (a_wide, .inl (cT 0, 12, .inl k_wide_12)), (a_high, .inl (cT 0, 12, .inl k_high_13)), (a_shape, .inl (cT 1, 12, .inr (.inl k_shape_14)))]) hP hD [0, 1, 2, 3, 4, 5, 6, 7, 8] [] rfl rfl (by decide) (by decide) hk1 hFc hP1 hD1
      clear hP hD
      obtain ⟨hP, hD⟩ := hPD
      replace hP := hP.sub (ws' := [(a_t, .inr (0, [.int k_width, .int k_height, .int k_barges, .long k_walls, .long k_taken, .ref a_kind, .ref a_place, .ref a_length, .ref a_gate, .ref a_across, .ref a_wide, .ref a_high, .ref a_shape])), (a_kind, .inl (cT 0, 12, .inl k_kind_7)), (a_place, .inl (cT 0, 12, .inl k_place_8)), (a_length, .inl (cT 0, 12, .inl k_length_9)), (a_gate, .inl (cT 0, 12, .inl k_gate_10)), (a_across, .inl (cT 2, 12, .inl k_across_11)), (a_wide, .inl (cT 0, 12, .inl k_wide_12)), (a_high, .inl (cT 0, 12, .inl k_high_13)), (a_shape, .inl (cT 1, 12, .inr (.inl k_shape_14)))]) [0, 1, 2, 3, 4, 5, 6, 7, 8] rfl
      replace hD := hD.sub (ws' := [(a_t, .inr (0, [.int k_width, .int k_height, .int k_barges, .long k_walls, .long k_taken, .ref a_kind, .ref a_place, .ref a_length, .ref a_gate, .ref a_across, .ref a_wide, .ref a_high, .ref a_shape])), (a_kind, .inl (cT 0, 12, .inl k_kind_7)), (a_place, .inl (cT 0, 12, .inl k_place_8)), (a_length, .inl (cT 0, 12, .inl k_length_9)), (a_gate, .inl (cT 0, 12, .inl k_gate_10)), (a_across, .inl (cT 2, 12, .inl k_across_11)), (a_wide, .inl (cT 0, 12, .inl k_wide_12)), (a_high, .inl (cT 0, 12, .inl k_high_13)), (a_shape, .inl (cT 1, 12, .inr (.inl k_shape_14)))]) [0, 1, 2, 3, 4, 5, 6, 7, 8] (by decide) rfl
      clear hPc hDc hFc hP1 hK1 hD1 hk1 hz1
      generalize H1 = H at hP hS ⊢
      obtain ⟨v2_17, ev2_17⟩ : ∃ y : Int32, y = v2 + 1 := ⟨_, rfl⟩
      replace hf := ob_nm ev2_17 hf
      refine lv_iinc (v := v2_17) (lv' := [(2, .int v2_17), (0, .ref a_t)]) hx hb dX0_drop_39 hl (k := 1) rfl (by rw [ev2_17]; rfl) (by decide) rfl (fun ls hl => ?_)
      refine lv_goto (tgt := 22) hx hb dX0_drop_42 (by decide) ?_
      exact ih _ _ _ _ _ _ _ _ _ ex hf _ _ hP hD hS ls (lv_sub hl [1, 0] rfl) K0
set_option maxHeartbeats 4000000 in
set_option maxRecDepth 100000 in
theorem c_f_Chart_drop (l : Launch) (D : va_G) (cT : Nat → ClassId) (sz : Nat) (a_t a_kind a_place a_length a_gate a_across a_wide a_high a_shape : Nat) (k_width : Int32) (k_height : Int32) (k_barges : Int32) (k_walls : Int64) (k_taken : Int64) (k_kind : Nat → Int32) (k_place : Nat → Int32) (k_length : Nat → Int32) (k_gate : Nat → Int32) (k_across : Nat → Int32) (k_wide : Nat → Int32) (k_high : Nat → Int32) (k_shape : Nat → Int64) (v1 : Int32) (k_barges₉ : Int32) (k_taken₉ : Int64) (k_kind₉ : Nat → Int32) (k_place₉ : Nat → Int32) (k_length₉ : Nat → Int32) (k_gate₉ : Nat → Int32) (k_across₉ : Nat → Int32) (k_wide₉ : Nat → Int32) (k_high₉ : Nat → Int32) (k_shape₉ : Nat → Int64) (hf : f_Chart_drop v1 k_barges k_taken k_kind k_place k_length k_gate k_across k_wide k_high k_shape = some (k_barges₉, k_taken₉, k_kind₉, k_place₉, k_length₉, k_gate₉, k_across₉, k_wide₉, k_high₉, k_shape₉)) : Met l yX0_drop wsX0_drop rm_Chart_drop (va_Pc [.ref a_t, .int v1] (fun U => U.heap.size = sz ∧ va_P D vwCl [(a_t, .inr (0, [.int k_width, .int k_height, .int k_barges, .long k_walls, .long k_taken, .ref a_kind, .ref a_place, .ref a_length, .ref a_gate, .ref a_across, .ref a_wide, .ref a_high, .ref a_shape])), (a_kind, .inl (cT 0, 12, .inl k_kind)), (a_place, .inl (cT 0, 12, .inl k_place)), (a_length, .inl (cT 0, 12, .inl k_length)), (a_gate, .inl (cT 0, 12, .inl k_gate)), (a_across, .inl (cT 2, 12, .inl k_across)), (a_wide, .inl (cT 0, 12, .inl k_wide)), (a_high, .inl (cT 0, 12, .inl k_high)), (a_shape, .inl (cT 1, 12, .inr (.inl k_shape)))] U.heap ∧ va_K D vwCl (jT cT) U ∧ jNw U ∧ va_D (fun _ => True) [(a_t, .inr (0, [.int k_width, .int k_height, .int k_barges, .long k_walls, .long k_taken, .ref a_kind, .ref a_place, .ref a_length, .ref a_gate, .ref a_across, .ref a_wide, .ref a_high, .ref a_shape])), (a_kind, .inl (cT 0, 12, .inl k_kind)), (a_place, .inl (cT 0, 12, .inl k_place)), (a_length, .inl (cT 0, 12, .inl k_length)), (a_gate, .inl (cT 0, 12, .inl k_gate)), (a_across, .inl (cT 2, 12, .inl k_across)), (a_wide, .inl (cT 0, 12, .inl k_wide)), (a_high, .inl (cT 0, 12, .inl k_high)), (a_shape, .inl (cT 1, 12, .inr (.inl k_shape)))])) (va_Qv (fun _ : Unit => True) (fun (_ : Unit) t => va_P D vwCl [(a_t, .inr (0, [.int k_width, .int k_height, .int k_barges₉, .long k_walls, .long k_taken₉, .ref a_kind, .ref a_place, .ref a_length, .ref a_gate, .ref a_across, .ref a_wide, .ref a_high, .ref a_shape])), (a_kind, .inl (cT 0, 12, .inl k_kind₉)), (a_place, .inl (cT 0, 12, .inl k_place₉)), (a_length, .inl (cT 0, 12, .inl k_length₉)), (a_gate, .inl (cT 0, 12, .inl k_gate₉)), (a_across, .inl (cT 2, 12, .inl k_across₉)), (a_wide, .inl (cT 0, 12, .inl k_wide₉)), (a_high, .inl (cT 0, 12, .inl k_high₉)), (a_shape, .inl (cT 1, 12, .inr (.inl k_shape₉)))] t.heap ∧ va_K D vwCl (jT cT) t ∧ va_D (va_A [(a_t, .inr (0, [.int k_width, .int k_height, .int k_barges, .long k_walls, .long k_taken, .ref a_kind, .ref a_place, .ref a_length, .ref a_gate, .ref a_across, .ref a_wide, .ref a_high, .ref a_shape])), (a_kind, .inl (cT 0, 12, .inl k_kind)), (a_place, .inl (cT 0, 12, .inl k_place)), (a_length, .inl (cT 0, 12, .inl k_length)), (a_gate, .inl (cT 0, 12, .inl k_gate)), (a_across, .inl (cT 2, 12, .inl k_across)), (a_wide, .inl (cT 0, 12, .inl k_wide)), (a_high, .inl (cT 0, 12, .inl k_high)), (a_shape, .inl (cT 1, 12, .inr (.inl k_shape)))] sz) [(a_t, .inr (0, [.int k_width, .int k_height, .int k_barges₉, .long k_walls, .long k_taken₉, .ref a_kind, .ref a_place, .ref a_length, .ref a_gate, .ref a_across, .ref a_wide, .ref a_high, .ref a_shape])), (a_kind, .inl (cT 0, 12, .inl k_kind₉)), (a_place, .inl (cT 0, 12, .inl k_place₉)), (a_length, .inl (cT 0, 12, .inl k_length₉)), (a_gate, .inl (cT 0, 12, .inl k_gate₉)), (a_across, .inl (cT 2, 12, .inl k_across₉)), (a_wide, .inl (cT 0, 12, .inl k_wide₉)), (a_high, .inl (cT 0, 12, .inl k_high₉)), (a_shape, .inl (cT 1, 12, .inr (.inl k_shape₉)))]) (va_A [(a_t, .inr (0, [.int k_width, .int k_height, .int k_barges, .long k_walls, .long k_taken, .ref a_kind, .ref a_place, .ref a_length, .ref a_gate, .ref a_across, .ref a_wide, .ref a_high, .ref a_shape])), (a_kind, .inl (cT 0, 12, .inl k_kind)), (a_place, .inl (cT 0, 12, .inl k_place)), (a_length, .inl (cT 0, 12, .inl k_length)), (a_gate, .inl (cT 0, 12, .inl k_gate)), (a_across, .inl (cT 2, 12, .inl k_across)), (a_wide, .inl (cT 0, 12, .inl k_wide)), (a_high, .inl (cT 0, 12, .inl k_high)), (a_shape, .inl (cT 1, 12, .inr (.inl k_shape)))] sz)) 0 0 (va_A [(a_t, .inr (0, [.int k_width, .int k_height, .int k_barges, .long k_walls, .long k_taken, .ref a_kind, .ref a_place, .ref a_length, .ref a_gate, .ref a_across, .ref a_wide, .ref a_high, .ref a_shape])), (a_kind, .inl (cT 0, 12, .inl k_kind)), (a_place, .inl (cT 0, 12, .inl k_place)), (a_length, .inl (cT 0, 12, .inl k_length)), (a_gate, .inl (cT 0, 12, .inl k_gate)), (a_across, .inl (cT 2, 12, .inl k_across)), (a_wide, .inl (cT 0, 12, .inl k_wide)), (a_high, .inl (cT 0, 12, .inl k_high)), (a_shape, .inl (cT 1, 12, .inr (.inl k_shape)))] sz) := by
  refine Met.ofW (cc := cX0_drop) (maxL := 3) (ret := none) (by decide) rfl ?_
  intro p e s m args below meth c s₁ B hml hv
  obtain ⟨rfl, hsz, hP, hK, hN, hD0⟩ := hv
  have hx := B.exec
  have hb := B.bytes
  have hr := B.returns
  have hts := atoms_spec (ws := wsX0_drop) B.pre
  have hown : s.vm.findClass RX0 = some m.cls := findClass_of_methodNamed B.named
  have hlocks := B.notSynchronized
  subst hsz
  have hD := hD0.self (sz := s.heap.size)
  clear hD0
  generalize hAe : va_A [(a_t, .inr (0, [.int k_width, .int k_height, .int k_barges, .long k_walls, .long k_taken, .ref a_kind, .ref a_place, .ref a_length, .ref a_gate, .ref a_across, .ref a_wide, .ref a_high, .ref a_shape])), (a_kind, .inl (cT 0, 12, .inl k_kind)), (a_place, .inl (cT 0, 12, .inl k_place)), (a_length, .inl (cT 0, 12, .inl k_length)), (a_gate, .inl (cT 0, 12, .inl k_gate)), (a_across, .inl (cT 2, 12, .inl k_across)), (a_wide, .inl (cT 0, 12, .inl k_wide)), (a_high, .inl (cT 0, 12, .inl k_high)), (a_shape, .inl (cT 1, 12, .inr (.inl k_shape)))] s.heap.size = A at hD ⊢
  have hA : ∀ q : Nat, s.heap.size ≤ q → A q := fun q h => by rw [← hAe]; exact Or.inr h
  clear hAe
  have hl := lv_entry ([.ref a_t, .int v1]) (n := 3) (Nat.le_of_ble_eq_true rfl)
  rw [lg_entry_eq]
  generalize (lg_sl ([.ref a_t, .int v1]) ++ List.replicate (3 - (lg_sl ([.ref a_t, .int v1])).length) Slot.unset).toArray = ls at hl ⊢
  have hl : lv_has ls 3 [(0, .ref a_t), (1, .int v1)] := hl
  refine j_start (A := A) hP (fun H locs hP hS => ?_)
  unfold f_Chart_drop at hf
  refine lv_aload_n hx hb dX0_drop_0 rfl (lv_at hl 0 rfl) ?_
  refine lv_dup hx hb dX0_drop_1 rfl ?_
  refine va_get (D := D) (ci := 0) (v := .long k_taken) (C := RX0) (T := TX0) (N := 13) hx hb hts iw_wsX0_drop_X0 hown hK hP 0 rfl rfl 4 (by decide) (hts (.fieldLink RX0 55 "BargeBasin$Chart" "taken" "J") (List.mem_of_getElem? (i := 1) (by decide +kernel))) (fun _ h9 => h9) rfl dX0_drop_2 ?_
  refine lv_aload_n hx hb dX0_drop_5 rfl (lv_at hl 0 rfl) ?_
  refine lv_iload_n hx hb dX0_drop_6 rfl (lv_at hl 1 rfl) ?_
  replace hf := ob_b hf
  obtain ⟨zr_1, hc_2, hf⟩ := hf
  refine vp_callSl (W.runV (As := [.int v1]) (rest := [.long k_taken, .ref a_t]) ⟨hx, hb, hml, hown, hts⟩ (c_f_Chart_fieldsOf l D cT a_t a_kind a_place a_length a_gate a_across a_wide a_high a_shape k_width k_height k_barges k_walls k_taken k_place k_shape v1 _ hc_2) (cwV 1 hts gX0_drop_X0_fieldsOf rfl rfl rfl (by decide +kernel) ⟨Nat.le_of_ble_eq_true rfl, Nat.le_of_ble_eq_true rfl⟩) ⟨fun a U g mk q => by obtain ⟨q0, qP, qK, qN⟩ := q; exact ⟨q0, qP, va_K.moved (u := U) (U := U.calling g mk a) (Vm.Alike.refl U.vm) qK, jNw_same (u := U) (U := U.calling g mk a) rfl qN⟩, va_recv hK hP (ci := 0) (q0 := 0) rfl rfl, fun U hU hW => ⟨rfl, by rw [hU]; exact hP.sub [0, 2, 8] rfl, va_K.moved hW.alike hK, jNw_warm hW hN⟩⟩ rfl rfl hl.1 rfl (lv_room (Nat.le_of_ble_eq_true rfl)) dX0_drop_7 ⟨Nat.le_of_ble_eq_true rfl, Nat.le_of_ble_eq_true rfl⟩) (fun r_1 er_3 => ?_)
  subst er_3
  refine lv_ldc2 hx hb hown (hts (.constantLong RX0 64 (-1)) (List.mem_of_getElem? (i := 2) (by decide +kernel))) dX0_drop_10 ?_
  refine lv_lxor hx hb dX0_drop_13 ?_
  refine lv_land hx hb dX0_drop_14 ?_
  refine lv_topl (fun w_4 ew_4 => ?_)
  replace hf := ob_nm ew_4 hf
  refine va_put (D := D) (ci := 0) (v := .long w_4) (ty := .long) (C := RX0) (T := TX0) (N := 13) hx hb hts iw_wsX0_drop_X0 tyX0 tyX0_ok nmX0 hown hK hP hD hS 0 rfl rfl 4 (by decide) (hts (.fieldLink RX0 55 "BargeBasin$Chart" "taken" "J") (List.mem_of_getElem? (i := 1) (by decide +kernel))) (fun _ h9 => h9) rfl (by decide +kernel) rfl rfl (Nat.le_of_ble_eq_true rfl) dX0_drop_15 (fun H locs hP hD hS => ?_)
  replace hP : va_P D vwCl [(a_t, .inr (0, [.int k_width, .int k_height, .int k_barges, .long k_walls, .long w_4, .ref a_kind, .ref a_place, .ref a_length, .ref a_gate, .ref a_across, .ref a_wide, .ref a_high, .ref a_shape])), (a_kind, .inl (cT 0, 12, .inl k_kind)), (a_place, .inl (cT 0, 12, .inl k_place)), (a_length, .inl (cT 0, 12, .inl k_length)), (a_gate, .inl (cT 0, 12, .inl k_gate)), (a_across, .inl (cT 2, 12, .inl k_across)), (a_wide, .inl (cT 0, 12, .inl k_wide)), (a_high, .inl (cT 0, 12, .inl k_high)), (a_shape, .inl (cT 1, 12, .inr (.inl k_shape)))] H := hP
  replace hD : va_D A [(a_t, .inr (0, [.int k_width, .int k_height, .int k_barges, .long k_walls, .long w_4, .ref a_kind, .ref a_place, .ref a_length, .ref a_gate, .ref a_across, .ref a_wide, .ref a_high, .ref a_shape])), (a_kind, .inl (cT 0, 12, .inl k_kind)), (a_place, .inl (cT 0, 12, .inl k_place)), (a_length, .inl (cT 0, 12, .inl k_length)), (a_gate, .inl (cT 0, 12, .inl k_gate)), (a_across, .inl (cT 2, 12, .inl k_across)), (a_wide, .inl (cT 0, 12, .inl k_wide)), (a_high, .inl (cT 0, 12, .inl k_high)), (a_shape, .inl (cT 1, 12, .inr (.inl k_shape)))] := hD
  refine lv_iload_n hx hb dX0_drop_18 rfl (lv_at hl 1 rfl) ?_
  refine lv_iconst (v := 1) hx hb dX0_drop_19 (by decide) ?_
  refine lv_iadd hx hb dX0_drop_20 ?_
  refine lv_topi (fun v2_5 ev2_5 => ?_)
  replace hf := ob_nm ev2_5 hf
  refine lv_istore_n (lv' := [(2, .int v2_5), (0, .ref a_t), (1, .int v1)]) hx hb dX0_drop_21 rfl hl (by decide) rfl (fun ls hl => ?_)
  replace hf := ob_b hf
  obtain ⟨ex_26, hq_27, hf⟩ := hf
  refine l_f_Chart_drop_L22 hx hb hml hown hts hK hN hA jN _ _ _ _ _ _ _ _ _ ex_26 hq_27 _ _ hP hD hS ls (lv_sub hl [1, 0] rfl) (fun k_kind_28 k_place_29 k_length_30 k_gate_31 k_across_32 k_wide_33 k_high_34 k_shape_35 ee_37 H locs hP hD hS ls hl => ?_)
  subst ee_37
  replace hf := ob_un8 hf
  refine lv_aload_n hx hb dX0_drop_45 rfl (lv_at hl 0 rfl) ?_
  refine lv_dup hx hb dX0_drop_46 rfl ?_
  refine va_get (D := D) (ci := 0) (v := .int k_barges) (C := RX0) (T := TX0) (N := 13) hx hb hts iw_wsX0_drop_X0 hown hK hP 0 rfl rfl 2 (by decide) (hts (.fieldLink RX0 52 "BargeBasin$Chart" "barges" "I") (List.mem_of_getElem? (i := 3) (by decide +kernel))) (fun _ h9 => h9) rfl dX0_drop_47 ?_
  refine lv_iconst (v := 1) hx hb dX0_drop_50 (by decide) ?_
  refine lv_isub hx hb dX0_drop_51 ?_
  refine lv_topi (fun w_36 ew_36 => ?_)
  replace hf := ob_nm ew_36 hf
  refine va_put (D := D) (ci := 0) (v := .int w_36) (ty := .int) (C := RX0) (T := TX0) (N := 13) hx hb hts iw_wsX0_drop_X0 tyX0 tyX0_ok nmX0 hown hK hP hD hS 0 rfl rfl 2 (by decide) (hts (.fieldLink RX0 52 "BargeBasin$Chart" "barges" "I") (List.mem_of_getElem? (i := 3) (by decide +kernel))) (fun _ h9 => h9) rfl (by decide +kernel) rfl rfl (Nat.le_of_ble_eq_true rfl) dX0_drop_52 (fun H locs hP hD hS => ?_)
  replace hP : va_P D vwCl [(a_t, .inr (0, [.int k_width, .int k_height, .int w_36, .long k_walls, .long w_4, .ref a_kind, .ref a_place, .ref a_length, .ref a_gate, .ref a_across, .ref a_wide, .ref a_high, .ref a_shape])), (a_kind, .inl (cT 0, 12, .inl k_kind_28)), (a_place, .inl (cT 0, 12, .inl k_place_29)), (a_length, .inl (cT 0, 12, .inl k_length_30)), (a_gate, .inl (cT 0, 12, .inl k_gate_31)), (a_across, .inl (cT 2, 12, .inl k_across_32)), (a_wide, .inl (cT 0, 12, .inl k_wide_33)), (a_high, .inl (cT 0, 12, .inl k_high_34)), (a_shape, .inl (cT 1, 12, .inr (.inl k_shape_35)))] H := hP
  replace hD : va_D A [(a_t, .inr (0, [.int k_width, .int k_height, .int w_36, .long k_walls, .long w_4, .ref a_kind, .ref a_place, .ref a_length, .ref a_gate, .ref a_across, .ref a_wide, .ref a_high, .ref a_shape])), (a_kind, .inl (cT 0, 12, .inl k_kind_28)), (a_place, .inl (cT 0, 12, .inl k_place_29)), (a_length, .inl (cT 0, 12, .inl k_length_30)), (a_gate, .inl (cT 0, 12, .inl k_gate_31)), (a_across, .inl (cT 2, 12, .inl k_across_32)), (a_wide, .inl (cT 0, 12, .inl k_wide_33)), (a_high, .inl (cT 0, 12, .inl k_high_34)), (a_shape, .inl (cT 1, 12, .inr (.inl k_shape_35)))] := hD
  replace hf := ob_t10 hf
  obtain ⟨ee0, ee1, ee2, ee3, ee4, ee5, ee6, ee7, ee8, ee9⟩ := hf
  subst ee0
  subst ee1
  subst ee2
  subst ee3
  subst ee4
  subst ee5
  subst ee6
  subst ee7
  subst ee8
  subst ee9
  exact W.vret hx hb hr (fun t ht hW => ⟨⟨(), rfl, trivial, by rw [ht]; exact hP, va_K.moved hW.alike hK, hD⟩, hS.F ht⟩) hS.2.2 dX0_drop_55
theorem iw_wsX0_detail_X0 : ∀ w ∈ wsX00, w ∈ wsX0_detail := fun _ h => List.mem_cons_of_mem _ (List.mem_append_right _ h)
abbrev rm_Chart_detail : Room := { frames := 0, cells := 0, slots := 0, locals := 0 }
set_option maxHeartbeats 4000000 in
set_option maxRecDepth 100000 in
theorem c_f_Chart_detail (l : Launch) (D : va_G) (cT : Nat → ClassId) (a_t a_kind a_place a_length a_gate a_across a_wide a_high a_shape : Nat) (k_width : Int32) (k_height : Int32) (k_barges : Int32) (k_walls : Int64) (k_taken : Int64) (k_kind : Nat → Int32) (k_place : Nat → Int32) (k_length : Nat → Int32) (k_gate : Nat → Int32) (k_across : Nat → Int32) (v1 : Int32) (v2 : Int32) (r0 : Int32) (hf : f_Chart_detail v1 v2 k_kind k_place k_length k_gate k_across = some r0) : Met l yX0_detail wsX0_detail rm_Chart_detail (va_Pc [.ref a_t, .int v1, .int v2] (fun U => va_P D vwCl [(a_t, .inr (0, [.int k_width, .int k_height, .int k_barges, .long k_walls, .long k_taken, .ref a_kind, .ref a_place, .ref a_length, .ref a_gate, .ref a_across, .ref a_wide, .ref a_high, .ref a_shape])), (a_kind, .inl (cT 0, 12, .inl k_kind)), (a_place, .inl (cT 0, 12, .inl k_place)), (a_length, .inl (cT 0, 12, .inl k_length)), (a_gate, .inl (cT 0, 12, .inl k_gate)), (a_across, .inl (cT 2, 12, .inl k_across))] U.heap ∧ va_K D vwCl (jT cT) U ∧ jNw U)) (vp_Si (fun r => r = r0)) 0 0 (fun _ => False) := by
  refine Met.ofW (cc := cX0_detail) (maxL := 3) (ret := (some .int)) (by decide) rfl ?_
  intro p e s m args below meth c s₁ B hml hv
  obtain ⟨rfl, hP, hK, hN⟩ := hv
  have hx := B.exec
  have hb := B.bytes
  have hr := B.returns
  have hts := atoms_spec (ws := wsX0_detail) B.pre
  have hown : s.vm.findClass RX0 = some m.cls := findClass_of_methodNamed B.named
  have hlocks := B.notSynchronized
  have hl := lv_entry ([.ref a_t, .int v1, .int v2]) (n := 3) (Nat.le_of_ble_eq_true rfl)
  rw [lg_entry_eq]
  generalize (lg_sl ([.ref a_t, .int v1, .int v2]) ++ List.replicate (3 - (lg_sl ([.ref a_t, .int v1, .int v2])).length) Slot.unset).toArray = ls at hl ⊢
  have hl : lv_has ls 3 [(0, .ref a_t), (1, .int v1), (2, .int v2)] := hl
  unfold f_Chart_detail at hf
  refine lv_iload_n hx hb dX0_detail_0 rfl (lv_at hl 2 rfl) ?_
  by_cases c_1 : v2 = (0 : Int32)
  · replace hf := ob_pos c_1 hf
    refine lv_tableIn (off := 39) (tgt := 40) hx hb dX0_detail_1 (by rw [c_1]; decide) (by rw [c_1]; decide) (by rw [c_1]; decide) (by decide) ?_
    refine lv_aload_n hx hb dX0_detail_40 rfl (lv_at hl 0 rfl) ?_
    refine va_get (D := D) (ci := 0) (v := .ref a_kind) (C := RX0) (T := TX0) (N := 13) hx hb hts iw_wsX0_detail_X0 hown hK hP 0 rfl rfl 5 (by decide) (hts (.fieldLink RX0 9 "BargeBasin$Chart" "kind" "[I") (List.mem_of_getElem? (i := 1) (by decide +kernel))) (fun _ h9 => h9) rfl dX0_detail_41 ?_
    refine lv_iload_n hx hb dX0_detail_44 rfl (lv_at hl 1 rfl) ?_
    replace hf := ob_grd hf
    obtain ⟨hi_2, hf⟩ := hf
    refine va_iald hx hb hK hP 1 0 rfl rfl hi_2 dX0_detail_45 ?_
    cases hf
    exact W.iret hx hb hr (fun t ht hW => ⟨_, rfl, rfl, ht⟩) (fun q h => by cases h) dX0_detail_46
  replace hf := ob_neg c_1 hf
  by_cases c_3 : v2 = (1 : Int32)
  · replace hf := ob_pos c_3 hf
    refine lv_tableIn (off := 46) (tgt := 47) hx hb dX0_detail_1 (by rw [c_3]; decide) (by rw [c_3]; decide) (by rw [c_3]; decide) (by decide) ?_
    refine lv_aload_n hx hb dX0_detail_47 rfl (lv_at hl 0 rfl) ?_
    refine va_get (D := D) (ci := 0) (v := .ref a_place) (C := RX0) (T := TX0) (N := 13) hx hb hts iw_wsX0_detail_X0 hown hK hP 0 rfl rfl 6 (by decide) (hts (.fieldLink RX0 15 "BargeBasin$Chart" "place" "[I") (List.mem_of_getElem? (i := 2) (by decide +kernel))) (fun _ h9 => h9) rfl dX0_detail_48 ?_
    refine lv_iload_n hx hb dX0_detail_51 rfl (lv_at hl 1 rfl) ?_
    replace hf := ob_grd hf
    obtain ⟨hi_4, hf⟩ := hf
    refine va_iald hx hb hK hP 2 0 rfl rfl hi_4 dX0_detail_52 ?_
    refine lv_bipush (v := 7) hx hb dX0_detail_53 (by decide) ?_
    refine lv_iand hx hb dX0_detail_55 ?_
    cases hf
    exact W.iret hx hb hr (fun t ht hW => ⟨_, rfl, rfl, ht⟩) (fun q h => by cases h) dX0_detail_56
  replace hf := ob_neg c_3 hf
  by_cases c_5 : v2 = (2 : Int32)
  · replace hf := ob_pos c_5 hf
    refine lv_tableIn (off := 56) (tgt := 57) hx hb dX0_detail_1 (by rw [c_5]; decide) (by rw [c_5]; decide) (by rw [c_5]; decide) (by decide) ?_
    refine lv_aload_n hx hb dX0_detail_57 rfl (lv_at hl 0 rfl) ?_
    refine va_get (D := D) (ci := 0) (v := .ref a_place) (C := RX0) (T := TX0) (N := 13) hx hb hts iw_wsX0_detail_X0 hown hK hP 0 rfl rfl 6 (by decide) (hts (.fieldLink RX0 15 "BargeBasin$Chart" "place" "[I") (List.mem_of_getElem? (i := 2) (by decide +kernel))) (fun _ h9 => h9) rfl dX0_detail_58 ?_
    refine lv_iload_n hx hb dX0_detail_61 rfl (lv_at hl 1 rfl) ?_
    replace hf := ob_grd hf
    obtain ⟨hi_6, hf⟩ := hf
    refine va_iald hx hb hK hP 2 0 rfl rfl hi_6 dX0_detail_62 ?_
    refine lv_iconst (v := 3) hx hb dX0_detail_63 (by decide) ?_
    refine lv_ishr hx hb dX0_detail_64 ?_
    cases hf
    exact W.iret hx hb hr (fun t ht hW => ⟨_, rfl, rfl, ht⟩) (fun q h => by cases h) dX0_detail_65
  replace hf := ob_neg c_5 hf
  by_cases c_7 : v2 = (3 : Int32)
  · replace hf := ob_pos c_7 hf
    refine lv_tableIn (off := 65) (tgt := 66) hx hb dX0_detail_1 (by rw [c_7]; decide) (by rw [c_7]; decide) (by rw [c_7]; decide) (by decide) ?_
    refine lv_aload_n hx hb dX0_detail_66 rfl (lv_at hl 0 rfl) ?_
    refine va_get (D := D) (ci := 0) (v := .ref a_length) (C := RX0) (T := TX0) (N := 13) hx hb hts iw_wsX0_detail_X0 hown hK hP 0 rfl rfl 7 (by decide) (hts (.fieldLink RX0 18 "BargeBasin$Chart" "length" "[I") (List.mem_of_getElem? (i := 3) (by decide +kernel))) (fun _ h9 => h9) rfl dX0_detail_67 ?_
    refine lv_iload_n hx hb dX0_detail_70 rfl (lv_at hl 1 rfl) ?_
    replace hf := ob_grd hf
    obtain ⟨hi_8, hf⟩ := hf
    refine va_iald hx hb hK hP 3 0 rfl rfl hi_8 dX0_detail_71 ?_
    cases hf
    exact W.iret hx hb hr (fun t ht hW => ⟨_, rfl, rfl, ht⟩) (fun q h => by cases h) dX0_detail_72
  replace hf := ob_neg c_7 hf
  by_cases c_9 : v2 = (4 : Int32)
  · replace hf := ob_pos c_9 hf
    refine lv_tableIn (off := 72) (tgt := 73) hx hb dX0_detail_1 (by rw [c_9]; decide) (by rw [c_9]; decide) (by rw [c_9]; decide) (by decide) ?_
    refine lv_aload_n hx hb dX0_detail_73 rfl (lv_at hl 0 rfl) ?_
    refine va_get (D := D) (ci := 0) (v := .ref a_across) (C := RX0) (T := TX0) (N := 13) hx hb hts iw_wsX0_detail_X0 hown hK hP 0 rfl rfl 9 (by decide) (hts (.fieldLink RX0 24 "BargeBasin$Chart" "across" "[Z") (List.mem_of_getElem? (i := 4) (by decide +kernel))) (fun _ h9 => h9) rfl dX0_detail_74 ?_
    refine lv_iload_n hx hb dX0_detail_77 rfl (lv_at hl 1 rfl) ?_
    replace hf := ob_grd hf
    obtain ⟨hi_10, hf⟩ := hf
    refine va_zald hx hb hK hP 5 2 rfl rfl hi_10 dX0_detail_78 ?_
    refine lv_if_eq (tgt := 86) hx hb dX0_detail_79 (by decide) (fun c_11 => ?_) (fun c_11 => ?_)
    · replace hf := ob_pos c_11 hf
      refine lv_iconst (v := 0) hx hb dX0_detail_86 (by decide) ?_
      cases hf
      exact W.iret hx hb hr (fun t ht hW => ⟨_, rfl, rfl, ht⟩) (fun q h => by cases h) dX0_detail_87
    · replace hf := ob_neg c_11 hf
      refine lv_iconst (v := 1) hx hb dX0_detail_82 (by decide) ?_
      refine lv_goto (tgt := 87) hx hb dX0_detail_83 (by decide) ?_
      cases hf
      exact W.iret hx hb hr (fun t ht hW => ⟨_, rfl, rfl, ht⟩) (fun q h => by cases h) dX0_detail_87
  replace hf := ob_neg c_9 hf
  by_cases c_12 : v2 = (5 : Int32)
  · replace hf := ob_pos c_12 hf
    refine lv_tableIn (off := 87) (tgt := 88) hx hb dX0_detail_1 (by rw [c_12]; decide) (by rw [c_12]; decide) (by rw [c_12]; decide) (by decide) ?_
    refine lv_aload_n hx hb dX0_detail_88 rfl (lv_at hl 0 rfl) ?_
    refine va_get (D := D) (ci := 0) (v := .ref a_gate) (C := RX0) (T := TX0) (N := 13) hx hb hts iw_wsX0_detail_X0 hown hK hP 0 rfl rfl 8 (by decide) (hts (.fieldLink RX0 21 "BargeBasin$Chart" "gate" "[I") (List.mem_of_getElem? (i := 5) (by decide +kernel))) (fun _ h9 => h9) rfl dX0_detail_89 ?_
    refine lv_iload_n hx hb dX0_detail_92 rfl (lv_at hl 1 rfl) ?_
    replace hf := ob_grd hf
    obtain ⟨hi_13, hf⟩ := hf
    refine va_iald hx hb hK hP 4 0 rfl rfl hi_13 dX0_detail_93 ?_
    refine lv_bipush (v := 7) hx hb dX0_detail_94 (by decide) ?_
    refine lv_iand hx hb dX0_detail_96 ?_
    cases hf
    exact W.iret hx hb hr (fun t ht hW => ⟨_, rfl, rfl, ht⟩) (fun q h => by cases h) dX0_detail_97
  replace hf := ob_neg c_12 hf
  have nc_1 := lv_neT c_1 (a := 0) (by decide)
  have nc_3 := lv_neT c_3 (a := 1) (by decide)
  have nc_5 := lv_neT c_5 (a := 2) (by decide)
  have nc_7 := lv_neT c_7 (a := 3) (by decide)
  have nc_9 := lv_neT c_9 (a := 4) (by decide)
  have nc_12 := lv_neT c_12 (a := 5) (by decide)
  refine lv_tableOut (tgt := 98) hx hb dX0_detail_1 (by omega) (by decide) ?_
  refine lv_aload_n hx hb dX0_detail_98 rfl (lv_at hl 0 rfl) ?_
  refine va_get (D := D) (ci := 0) (v := .ref a_gate) (C := RX0) (T := TX0) (N := 13) hx hb hts iw_wsX0_detail_X0 hown hK hP 0 rfl rfl 8 (by decide) (hts (.fieldLink RX0 21 "BargeBasin$Chart" "gate" "[I") (List.mem_of_getElem? (i := 5) (by decide +kernel))) (fun _ h9 => h9) rfl dX0_detail_99 ?_
  refine lv_iload_n hx hb dX0_detail_102 rfl (lv_at hl 1 rfl) ?_
  replace hf := ob_grd hf
  obtain ⟨hi_14, hf⟩ := hf
  refine va_iald hx hb hK hP 4 0 rfl rfl hi_14 dX0_detail_103 ?_
  refine lv_iconst (v := 3) hx hb dX0_detail_104 (by decide) ?_
  refine lv_ishr hx hb dX0_detail_105 ?_
  cases hf
  exact W.iret hx hb hr (fun t ht hW => ⟨_, rfl, rfl, ht⟩) (fun q h => by cases h) dX0_detail_106
theorem iw_wsX0_isOnLine_X0 : ∀ w ∈ wsX00, w ∈ wsX0_isOnLine := fun _ h => List.mem_cons_of_mem _ (List.mem_append_right _ h)
abbrev rm_Chart_isOnLine : Room := { frames := 1, cells := 0, slots := 0, locals := 24 }
set_option maxHeartbeats 4000000 in
set_option maxRecDepth 100000 in
theorem c_f_Chart_isOnLine (l : Launch) (D : va_G) (cT : Nat → ClassId) (a_t a_kind a_place a_length a_gate a_across a_wide a_high a_shape : Nat) (k_width : Int32) (k_height : Int32) (k_barges : Int32) (k_walls : Int64) (k_taken : Int64) (k_place : Nat → Int32) (k_across : Nat → Int32) (k_wide : Nat → Int32) (k_high : Nat → Int32) (v1 : Int32) (v2 : Int32) (v3 : Int32) (r0 : Int32) (hf : f_Chart_isOnLine v1 v2 v3 k_width k_height k_place k_across k_wide k_high = some r0) : Met l yX0_isOnLine wsX0_isOnLine rm_Chart_isOnLine (va_Pc [.ref a_t, .int v1, .int v2, .int v3] (fun U => va_P D vwCl [(a_t, .inr (0, [.int k_width, .int k_height, .int k_barges, .long k_walls, .long k_taken, .ref a_kind, .ref a_place, .ref a_length, .ref a_gate, .ref a_across, .ref a_wide, .ref a_high, .ref a_shape])), (a_place, .inl (cT 0, 12, .inl k_place)), (a_across, .inl (cT 2, 12, .inl k_across)), (a_wide, .inl (cT 0, 12, .inl k_wide)), (a_high, .inl (cT 0, 12, .inl k_high))] U.heap ∧ va_K D vwCl (jT cT) U ∧ jNw U)) (vp_Si (fun r => r = r0)) 0 0 (fun _ => False) := by
  refine Met.ofW (cc := cX0_isOnLine) (maxL := 5) (ret := (some .boolean)) (by decide) rfl ?_
  intro p e s m args below meth c s₁ B hml hv
  obtain ⟨rfl, hP, hK, hN⟩ := hv
  have hx := B.exec
  have hb := B.bytes
  have hr := B.returns
  have hts := atoms_spec (ws := wsX0_isOnLine) B.pre
  have hown : s.vm.findClass RX0 = some m.cls := findClass_of_methodNamed B.named
  have hlocks := B.notSynchronized
  have hl := lv_entry ([.ref a_t, .int v1, .int v2, .int v3]) (n := 5) (Nat.le_of_ble_eq_true rfl)
  rw [lg_entry_eq]
  generalize (lg_sl ([.ref a_t, .int v1, .int v2, .int v3]) ++ List.replicate (5 - (lg_sl ([.ref a_t, .int v1, .int v2, .int v3])).length) Slot.unset).toArray = ls at hl ⊢
  have hl : lv_has ls 5 [(0, .ref a_t), (1, .int v1), (2, .int v2), (3, .int v3)] := hl
  refine j_nameQ (fun Q hQ => ?_)
  have J47 : ∀ (s0 : Int32), f_Chart_isOnLine_J47 v1 v2 v3 s0 k_width k_height k_wide k_high = some r0 → ∀ (ls : Array Slot), lv_has ls 5 [(0, .ref a_t), (1, .int v1), (2, .int v2), (3, .int v3)] → W p l e (headSpec wsX0_isOnLine rm_Chart_isOnLine).room s m ([.ref a_t, .int v1, .int v2, .int v3] : List Value).toArray below meth c s.heap [] 0 0 Q (F0 m 47 ls [.int s0]) := by
    intro s0 hf ls hl
    unfold f_Chart_isOnLine_J47 at hf
    refine lv_istore (lv' := [(4, .int s0), (0, .ref a_t), (1, .int v1), (2, .int v2), (3, .int v3)]) hx hb dX0_isOnLine_47 hl (by decide) rfl (fun ls hl => ?_)
    refine lv_iload hx hb dX0_isOnLine_49 (lv_at hl 0 rfl) ?_
    refine lv_if_eq (tgt := 79) hx hb dX0_isOnLine_51 (by decide) (fun c_5 => ?_) (fun c_5 => ?_)
    · replace hf := ob_pos c_5 hf
      refine lv_iconst (v := 0) hx hb dX0_isOnLine_79 (by decide) ?_
      cases hf
      subst hQ
      exact W.zret hx hb hr (by decide +kernel) (fun t ht hW => ⟨_, rfl, rfl, ht⟩) (fun q h => by cases h) dX0_isOnLine_80
    · replace hf := ob_neg c_5 hf
      refine lv_aload_n hx hb dX0_isOnLine_54 rfl (lv_at hl 1 rfl) ?_
      refine lv_iload_n hx hb dX0_isOnLine_55 rfl (lv_at hl 3 rfl) ?_
      refine lv_iload_n hx hb dX0_isOnLine_56 rfl (lv_at hl 4 rfl) ?_
      refine lv_aload_n hx hb dX0_isOnLine_57 rfl (lv_at hl 1 rfl) ?_
      refine va_get (D := D) (ci := 0) (v := .ref a_wide) (C := RX0) (T := TX0) (N := 13) hx hb hts iw_wsX0_isOnLine_X0 hown hK hP 0 rfl rfl 10 (by decide) (hts (.fieldLink RX0 28 "BargeBasin$Chart" "wide" "[I") (List.mem_of_getElem? (i := 3) (by decide +kernel))) (fun _ h9 => h9) rfl dX0_isOnLine_58 ?_
      refine lv_iload_n hx hb dX0_isOnLine_61 rfl (lv_at hl 2 rfl) ?_
      replace hf := ob_grd hf
      obtain ⟨hi_6, hf⟩ := hf
      refine va_iald hx hb hK hP 3 0 rfl rfl hi_6 dX0_isOnLine_62 ?_
      refine lv_aload_n hx hb dX0_isOnLine_63 rfl (lv_at hl 1 rfl) ?_
      refine va_get (D := D) (ci := 0) (v := .ref a_high) (C := RX0) (T := TX0) (N := 13) hx hb hts iw_wsX0_isOnLine_X0 hown hK hP 0 rfl rfl 11 (by decide) (hts (.fieldLink RX0 31 "BargeBasin$Chart" "high" "[I") (List.mem_of_getElem? (i := 4) (by decide +kernel))) (fun _ h9 => h9) rfl dX0_isOnLine_64 ?_
      refine lv_iload_n hx hb dX0_isOnLine_67 rfl (lv_at hl 2 rfl) ?_
      replace hf := ob_grd hf
      obtain ⟨hi_7, hf⟩ := hf
      refine va_iald hx hb hK hP 4 0 rfl rfl hi_7 dX0_isOnLine_68 ?_
      replace hf := ob_b hf
      obtain ⟨zr_8, hc_9, hf⟩ := hf
      refine vp_callSi (W.runV (As := [.int v2, .int v3, .int (k_wide v1.toNatClampNeg), .int (k_high v1.toNatClampNeg)]) (rest := []) ⟨hx, hb, hml, hown, hts⟩ (c_f_Chart_isInside l D cT a_t a_kind a_place a_length a_gate a_across a_wide a_high a_shape k_width k_height k_barges k_walls k_taken v2 v3 (k_wide v1.toNatClampNeg) (k_high v1.toNatClampNeg) _ hc_9) (cwV 4 hts gX0_isOnLine_X0_isInside rfl rfl rfl (by decide +kernel) ⟨Nat.le_of_ble_eq_true rfl, Nat.le_of_ble_eq_true rfl⟩) ⟨fun a U g mk q => by obtain ⟨q0, qP, qK, qN⟩ := q; exact ⟨q0, qP, va_K.moved (u := U) (U := U.calling g mk a) (Vm.Alike.refl U.vm) qK, jNw_same (u := U) (U := U.calling g mk a) rfl qN⟩, va_recv hK hP (ci := 0) (q0 := 0) rfl rfl, fun U hU hW => ⟨rfl, by rw [hU]; exact hP.sub [0] rfl, va_K.moved hW.alike hK, jNw_warm hW hN⟩⟩ rfl rfl hl.1 rfl (lv_room (Nat.le_of_ble_eq_true rfl)) dX0_isOnLine_69 ⟨Nat.le_of_ble_eq_true rfl, Nat.le_of_ble_eq_true rfl⟩) (fun r_8 er_10 => ?_)
      subst er_10
      refine lv_if_eq (tgt := 79) hx hb dX0_isOnLine_72 (by decide) (fun c_11 => ?_) (fun c_11 => ?_)
      · replace hf := ob_pos c_11 hf
        refine lv_iconst (v := 0) hx hb dX0_isOnLine_79 (by decide) ?_
        cases hf
        subst hQ
        exact W.zret hx hb hr (by decide +kernel) (fun t ht hW => ⟨_, rfl, rfl, ht⟩) (fun q h => by cases h) dX0_isOnLine_80
      · replace hf := ob_neg c_11 hf
        refine lv_iconst (v := 1) hx hb dX0_isOnLine_75 (by decide) ?_
        refine lv_goto (tgt := 80) hx hb dX0_isOnLine_76 (by decide) ?_
        cases hf
        subst hQ
        exact W.zret hx hb hr (by decide +kernel) (fun t ht hW => ⟨_, rfl, rfl, ht⟩) (fun q h => by cases h) dX0_isOnLine_80
  unfold f_Chart_isOnLine at hf
  refine lv_aload_n hx hb dX0_isOnLine_0 rfl (lv_at hl 0 rfl) ?_
  refine va_get (D := D) (ci := 0) (v := .ref a_across) (C := RX0) (T := TX0) (N := 13) hx hb hts iw_wsX0_isOnLine_X0 hown hK hP 0 rfl rfl 9 (by decide) (hts (.fieldLink RX0 24 "BargeBasin$Chart" "across" "[Z") (List.mem_of_getElem? (i := 1) (by decide +kernel))) (fun _ h9 => h9) rfl dX0_isOnLine_1 ?_
  refine lv_iload_n hx hb dX0_isOnLine_4 rfl (lv_at hl 1 rfl) ?_
  replace hf := ob_grd hf
  obtain ⟨hi_1, hf⟩ := hf
  refine va_zald hx hb hK hP 2 2 rfl rfl hi_1 dX0_isOnLine_5 ?_
  refine lv_if_eq (tgt := 30) hx hb dX0_isOnLine_6 (by decide) (fun c_2 => ?_) (fun c_2 => ?_)
  · replace hf := ob_pos c_2 hf
    refine lv_iload_n hx hb dX0_isOnLine_30 rfl (lv_at hl 3 rfl) ?_
    refine lv_aload_n hx hb dX0_isOnLine_31 rfl (lv_at hl 0 rfl) ?_
    refine va_get (D := D) (ci := 0) (v := .ref a_place) (C := RX0) (T := TX0) (N := 13) hx hb hts iw_wsX0_isOnLine_X0 hown hK hP 0 rfl rfl 6 (by decide) (hts (.fieldLink RX0 15 "BargeBasin$Chart" "place" "[I") (List.mem_of_getElem? (i := 2) (by decide +kernel))) (fun _ h9 => h9) rfl dX0_isOnLine_32 ?_
    refine lv_iload_n hx hb dX0_isOnLine_35 rfl (lv_at hl 1 rfl) ?_
    replace hf := ob_grd hf
    obtain ⟨hi_3, hf⟩ := hf
    refine va_iald hx hb hK hP 1 0 rfl rfl hi_3 dX0_isOnLine_36 ?_
    refine lv_iconst (v := 3) hx hb dX0_isOnLine_37 (by decide) ?_
    refine lv_ishr hx hb dX0_isOnLine_38 ?_
    refine lv_icmp_ne (tgt := 46) hx hb dX0_isOnLine_39 (by decide) (fun c_4 => ?_) (fun c_4 => ?_)
    · replace hf := ob_neg c_4 hf
      refine lv_iconst (v := 0) hx hb dX0_isOnLine_46 (by decide) ?_
      exact J47 _ hf ls (lv_sub hl [0, 1, 2, 3] rfl)
    · replace hf := ob_pos c_4 hf
      refine lv_iconst (v := 1) hx hb dX0_isOnLine_42 (by decide) ?_
      refine lv_goto (tgt := 47) hx hb dX0_isOnLine_43 (by decide) ?_
      exact J47 _ hf ls (lv_sub hl [0, 1, 2, 3] rfl)
  · replace hf := ob_neg c_2 hf
    refine lv_iload_n hx hb dX0_isOnLine_9 rfl (lv_at hl 2 rfl) ?_
    refine lv_aload_n hx hb dX0_isOnLine_10 rfl (lv_at hl 0 rfl) ?_
    refine va_get (D := D) (ci := 0) (v := .ref a_place) (C := RX0) (T := TX0) (N := 13) hx hb hts iw_wsX0_isOnLine_X0 hown hK hP 0 rfl rfl 6 (by decide) (hts (.fieldLink RX0 15 "BargeBasin$Chart" "place" "[I") (List.mem_of_getElem? (i := 2) (by decide +kernel))) (fun _ h9 => h9) rfl dX0_isOnLine_11 ?_
    refine lv_iload_n hx hb dX0_isOnLine_14 rfl (lv_at hl 1 rfl) ?_
    replace hf := ob_grd hf
    obtain ⟨hi_12, hf⟩ := hf
    refine va_iald hx hb hK hP 1 0 rfl rfl hi_12 dX0_isOnLine_15 ?_
    refine lv_bipush (v := 7) hx hb dX0_isOnLine_16 (by decide) ?_
    refine lv_iand hx hb dX0_isOnLine_18 ?_
    refine lv_icmp_ne (tgt := 26) hx hb dX0_isOnLine_19 (by decide) (fun c_13 => ?_) (fun c_13 => ?_)
    · replace hf := ob_neg c_13 hf
      refine lv_iconst (v := 0) hx hb dX0_isOnLine_26 (by decide) ?_
      refine lv_goto (tgt := 47) hx hb dX0_isOnLine_27 (by decide) ?_
      exact J47 _ hf ls (lv_sub hl [0, 1, 2, 3] rfl)
    · replace hf := ob_pos c_13 hf
      refine lv_iconst (v := 1) hx hb dX0_isOnLine_22 (by decide) ?_
      refine lv_goto (tgt := 47) hx hb dX0_isOnLine_23 (by decide) ?_
      exact J47 _ hf ls (lv_sub hl [0, 1, 2, 3] rfl)
theorem iw_wsX0_shift_X0 : ∀ w ∈ wsX00, w ∈ wsX0_shift := fun _ h => List.mem_cons_of_mem _ (List.mem_append_right _ h)
abbrev rm_Chart_shift : Room := { frames := 1, cells := 0, slots := 0, locals := 21 }
set_option maxHeartbeats 4000000 in
set_option maxRecDepth 100000 in
theorem c_f_Chart_shift (l : Launch) (D : va_G) (cT : Nat → ClassId) (sz : Nat) (a_t a_kind a_place a_length a_gate a_across a_wide a_high a_shape a_S_STEP : Nat) (k_width : Int32) (k_height : Int32) (k_barges : Int32) (k_walls : Int64) (k_taken : Int64) (k_place : Nat → Int32) (k_shape : Nat → Int64) (v1 : Int32) (v2 : Int32) (v3 : Int32) (k_taken₉ : Int64) (k_place₉ : Nat → Int32) (hf : f_Chart_shift v1 v2 v3 k_taken k_place k_shape = some (k_taken₉, k_place₉)) : Met l yX0_shift wsX0_shift rm_Chart_shift (va_Pc [.ref a_t, .int v1, .int v2, .int v3] (fun U => U.heap.size = sz ∧ va_P D vwCl [(a_t, .inr (0, [.int k_width, .int k_height, .int k_barges, .long k_walls, .long k_taken, .ref a_kind, .ref a_place, .ref a_length, .ref a_gate, .ref a_across, .ref a_wide, .ref a_high, .ref a_shape])), (a_place, .inl (cT 0, 12, .inl k_place)), (a_shape, .inl (cT 1, 12, .inr (.inl k_shape)))] U.heap ∧ va_K D vwCl (jT cT) U ∧ jNw U ∧ va_D (fun _ => True) [(a_t, .inr (0, [.int k_width, .int k_height, .int k_barges, .long k_walls, .long k_taken, .ref a_kind, .ref a_place, .ref a_length, .ref a_gate, .ref a_across, .ref a_wide, .ref a_high, .ref a_shape])), (a_place, .inl (cT 0, 12, .inl k_place)), (a_shape, .inl (cT 1, 12, .inr (.inl k_shape)))] ∧ va_Z "BargeBasin" "STEP" "[I" (.ref a_S_STEP) (va_A [(a_t, .inr (0, [.int k_width, .int k_height, .int k_barges, .long k_walls, .long k_taken, .ref a_kind, .ref a_place, .ref a_length, .ref a_gate, .ref a_across, .ref a_wide, .ref a_high, .ref a_shape])), (a_place, .inl (cT 0, 12, .inl k_place)), (a_shape, .inl (cT 1, 12, .inr (.inl k_shape)))] sz) U U.heap ∧ jX a_S_STEP sv_STEP (va_A [(a_t, .inr (0, [.int k_width, .int k_height, .int k_barges, .long k_walls, .long k_taken, .ref a_kind, .ref a_place, .ref a_length, .ref a_gate, .ref a_across, .ref a_wide, .ref a_high, .ref a_shape])), (a_place, .inl (cT 0, 12, .inl k_place)), (a_shape, .inl (cT 1, 12, .inr (.inl k_shape)))] sz) U U.heap)) (va_Qv (fun _ : Unit => True) (fun (_ : Unit) t => va_P D vwCl [(a_t, .inr (0, [.int k_width, .int k_height, .int k_barges, .long k_walls, .long k_taken₉, .ref a_kind, .ref a_place, .ref a_length, .ref a_gate, .ref a_across, .ref a_wide, .ref a_high, .ref a_shape])), (a_place, .inl (cT 0, 12, .inl k_place₉)), (a_shape, .inl (cT 1, 12, .inr (.inl k_shape)))] t.heap ∧ va_K D vwCl (jT cT) t ∧ va_D (va_A [(a_t, .inr (0, [.int k_width, .int k_height, .int k_barges, .long k_walls, .long k_taken, .ref a_kind, .ref a_place, .ref a_length, .ref a_gate, .ref a_across, .ref a_wide, .ref a_high, .ref a_shape])), (a_place, .inl (cT 0, 12, .inl k_place)), (a_shape, .inl (cT 1, 12, .inr (.inl k_shape)))] sz) [(a_t, .inr (0, [.int k_width, .int k_height, .int k_barges, .long k_walls, .long k_taken₉, .ref a_kind, .ref a_place, .ref a_length, .ref a_gate, .ref a_across, .ref a_wide, .ref a_high, .ref a_shape])), (a_place, .inl (cT 0, 12, .inl k_place₉)), (a_shape, .inl (cT 1, 12, .inr (.inl k_shape)))]) (va_A [(a_t, .inr (0, [.int k_width, .int k_height, .int k_barges, .long k_walls, .long k_taken, .ref a_kind, .ref a_place, .ref a_length, .ref a_gate, .ref a_across, .ref a_wide, .ref a_high, .ref a_shape])), (a_place, .inl (cT 0, 12, .inl k_place)), (a_shape, .inl (cT 1, 12, .inr (.inl k_shape)))] sz)) 0 0 (va_A [(a_t, .inr (0, [.int k_width, .int k_height, .int k_barges, .long k_walls, .long k_taken, .ref a_kind, .ref a_place, .ref a_length, .ref a_gate, .ref a_across, .ref a_wide, .ref a_high, .ref a_shape])), (a_place, .inl (cT 0, 12, .inl k_place)), (a_shape, .inl (cT 1, 12, .inr (.inl k_shape)))] sz) := by
  refine Met.ofW (cc := cX0_shift) (maxL := 4) (ret := none) (by decide) rfl ?_
  intro p e s m args below meth c s₁ B hml hv
  obtain ⟨rfl, hsz, hP, hK, hN, hD0, hZ_STEP, hX_STEP⟩ := hv
  have hx := B.exec
  have hb := B.bytes
  have hr := B.returns
  have hts := atoms_spec (ws := wsX0_shift) B.pre
  have hown : s.vm.findClass RX0 = some m.cls := findClass_of_methodNamed B.named
  have hlocks := B.notSynchronized
  subst hsz
  have hD := hD0.self (sz := s.heap.size)
  clear hD0
  generalize hAe : va_A [(a_t, .inr (0, [.int k_width, .int k_height, .int k_barges, .long k_walls, .long k_taken, .ref a_kind, .ref a_place, .ref a_length, .ref a_gate, .ref a_across, .ref a_wide, .ref a_high, .ref a_shape])), (a_place, .inl (cT 0, 12, .inl k_place)), (a_shape, .inl (cT 1, 12, .inr (.inl k_shape)))] s.heap.size = A at hD hZ_STEP hX_STEP ⊢
  have hA : ∀ q : Nat, s.heap.size ≤ q → A q := fun q h => by rw [← hAe]; exact Or.inr h
  clear hAe
  have hl := lv_entry ([.ref a_t, .int v1, .int v2, .int v3]) (n := 4) (Nat.le_of_ble_eq_true rfl)
  rw [lg_entry_eq]
  generalize (lg_sl ([.ref a_t, .int v1, .int v2, .int v3]) ++ List.replicate (4 - (lg_sl ([.ref a_t, .int v1, .int v2, .int v3])).length) Slot.unset).toArray = ls at hl ⊢
  have hl : lv_has ls 4 [(0, .ref a_t), (1, .int v1), (2, .int v2), (3, .int v3)] := hl
  refine j_start (A := A) hP (fun H locs hP hS => ?_)
  unfold f_Chart_shift at hf
  refine lv_aload_n hx hb dX0_shift_0 rfl (lv_at hl 0 rfl) ?_
  refine lv_dup hx hb dX0_shift_1 rfl ?_
  refine va_get (D := D) (ci := 0) (v := .long k_taken) (C := RX0) (T := TX0) (N := 13) hx hb hts iw_wsX0_shift_X0 hown hK hP 0 rfl rfl 4 (by decide) (hts (.fieldLink RX0 55 "BargeBasin$Chart" "taken" "J") (List.mem_of_getElem? (i := 1) (by decide +kernel))) (fun _ h9 => h9) rfl dX0_shift_2 ?_
  refine lv_aload_n hx hb dX0_shift_5 rfl (lv_at hl 0 rfl) ?_
  refine lv_iload_n hx hb dX0_shift_6 rfl (lv_at hl 1 rfl) ?_
  replace hf := ob_b hf
  obtain ⟨zr_1, hc_2, hf⟩ := hf
  refine vp_callSl (W.runV (As := [.int v1]) (rest := [.long k_taken, .ref a_t]) ⟨hx, hb, hml, hown, hts⟩ (c_f_Chart_fieldsOf l D cT a_t a_kind a_place a_length a_gate a_across a_wide a_high a_shape k_width k_height k_barges k_walls k_taken k_place k_shape v1 _ hc_2) (cwV 1 hts gX0_shift_X0_fieldsOf rfl rfl rfl (by decide +kernel) ⟨Nat.le_of_ble_eq_true rfl, Nat.le_of_ble_eq_true rfl⟩) ⟨fun a U g mk q => by obtain ⟨q0, qP, qK, qN⟩ := q; exact ⟨q0, qP, va_K.moved (u := U) (U := U.calling g mk a) (Vm.Alike.refl U.vm) qK, jNw_same (u := U) (U := U.calling g mk a) rfl qN⟩, va_recv hK hP (ci := 0) (q0 := 0) rfl rfl, fun U hU hW => ⟨rfl, by rw [hU]; exact hP.sub [0, 1, 2] rfl, va_K.moved hW.alike hK, jNw_warm hW hN⟩⟩ rfl rfl hl.1 rfl (lv_room (Nat.le_of_ble_eq_true rfl)) dX0_shift_7 ⟨Nat.le_of_ble_eq_true rfl, Nat.le_of_ble_eq_true rfl⟩) (fun r_1 er_3 => ?_)
  subst er_3
  refine lv_ldc2 hx hb hown (hts (.constantLong RX0 64 (-1)) (List.mem_of_getElem? (i := 2) (by decide +kernel))) dX0_shift_10 ?_
  refine lv_lxor hx hb dX0_shift_13 ?_
  refine lv_land hx hb dX0_shift_14 ?_
  refine lv_topl (fun w_4 ew_4 => ?_)
  replace hf := ob_nm ew_4 hf
  refine va_put (D := D) (ci := 0) (v := .long w_4) (ty := .long) (C := RX0) (T := TX0) (N := 13) hx hb hts iw_wsX0_shift_X0 tyX0 tyX0_ok nmX0 hown hK hP hD hS 0 rfl rfl 4 (by decide) (hts (.fieldLink RX0 55 "BargeBasin$Chart" "taken" "J") (List.mem_of_getElem? (i := 1) (by decide +kernel))) (fun _ h9 => h9) rfl (by decide +kernel) rfl rfl (Nat.le_of_ble_eq_true rfl) dX0_shift_15 (fun H locs hP hD hS => ?_)
  replace hP : va_P D vwCl [(a_t, .inr (0, [.int k_width, .int k_height, .int k_barges, .long k_walls, .long w_4, .ref a_kind, .ref a_place, .ref a_length, .ref a_gate, .ref a_across, .ref a_wide, .ref a_high, .ref a_shape])), (a_place, .inl (cT 0, 12, .inl k_place)), (a_shape, .inl (cT 1, 12, .inr (.inl k_shape)))] H := hP
  replace hD : va_D A [(a_t, .inr (0, [.int k_width, .int k_height, .int k_barges, .long k_walls, .long w_4, .ref a_kind, .ref a_place, .ref a_length, .ref a_gate, .ref a_across, .ref a_wide, .ref a_high, .ref a_shape])), (a_place, .inl (cT 0, 12, .inl k_place)), (a_shape, .inl (cT 1, 12, .inr (.inl k_shape)))] := hD
  refine lv_aload_n hx hb dX0_shift_18 rfl (lv_at hl 0 rfl) ?_
  refine va_get (D := D) (ci := 0) (v := .ref a_place) (C := RX0) (T := TX0) (N := 13) hx hb hts iw_wsX0_shift_X0 hown hK hP 0 rfl rfl 6 (by decide) (hts (.fieldLink RX0 15 "BargeBasin$Chart" "place" "[I") (List.mem_of_getElem? (i := 3) (by decide +kernel))) (fun _ h9 => h9) rfl dX0_shift_19 ?_
  refine lv_iload_n hx hb dX0_shift_22 rfl (lv_at hl 1 rfl) ?_
  refine lv_dup2_11 hx hb dX0_shift_23 rfl rfl ?_
  replace hf := ob_grd hf
  obtain ⟨hi_5, hf⟩ := hf
  refine va_iald hx hb hK hP 1 0 rfl rfl hi_5 dX0_shift_24 ?_
  refine lv_iload_n hx hb dX0_shift_25 rfl (lv_at hl 3 rfl) ?_
  refine va_getsN hx hb (C := "BargeBasin") (n := "STEP") (d := "[I") (v := .ref a_S_STEP) (hZ_STEP) hS hown (va_Nw.use (w := .fieldLinkNest RX0 102 RX6 "STEP" "[I" "BargeBasin") rfl (hN.1 _ (List.mem_of_getElem? (i := 0) (by decide +kernel)))) (fun _ h9 => h9) dX0_shift_26 ?_
  refine lv_iload_n hx hb dX0_shift_29 rfl (lv_at hl 2 rfl) ?_
  replace hf := ob_grd hf
  obtain ⟨hi_6, hf⟩ := hf
  refine va_sld hx hb hX_STEP.1 hX_STEP.2.1 hX_STEP.2.2 hS hi_6 dX0_shift_30 ?_
  refine lv_imul hx hb dX0_shift_31 ?_
  refine lv_iadd hx hb dX0_shift_32 ?_
  refine lv_topi (fun w_7 ew_7 => ?_)
  replace hf := ob_nm ew_7 hf
  replace hf := ob_grd hf
  obtain ⟨hi_8, hf⟩ := hf
  refine va_iast hx hb hK hP hD hS 1 0 rfl rfl hi_8 dX0_shift_33 (fun H locs hP hD hS => ?_)
  replace hP : va_P D vwCl [(a_t, .inr (0, [.int k_width, .int k_height, .int k_barges, .long k_walls, .long w_4, .ref a_kind, .ref a_place, .ref a_length, .ref a_gate, .ref a_across, .ref a_wide, .ref a_high, .ref a_shape])), (a_place, .inl (cT 0, 12, .inl (upd k_place v1.toNatClampNeg w_7))), (a_shape, .inl (cT 1, 12, .inr (.inl k_shape)))] H := hP
  replace hD : va_D A [(a_t, .inr (0, [.int k_width, .int k_height, .int k_barges, .long k_walls, .long w_4, .ref a_kind, .ref a_place, .ref a_length, .ref a_gate, .ref a_across, .ref a_wide, .ref a_high, .ref a_shape])), (a_place, .inl (cT 0, 12, .inl (upd k_place v1.toNatClampNeg w_7))), (a_shape, .inl (cT 1, 12, .inr (.inl k_shape)))] := hD
  refine lv_aload_n hx hb dX0_shift_34 rfl (lv_at hl 0 rfl) ?_
  refine lv_dup hx hb dX0_shift_35 rfl ?_
  refine va_get (D := D) (ci := 0) (v := .long w_4) (C := RX0) (T := TX0) (N := 13) hx hb hts iw_wsX0_shift_X0 hown hK hP 0 rfl rfl 4 (by decide) (hts (.fieldLink RX0 55 "BargeBasin$Chart" "taken" "J") (List.mem_of_getElem? (i := 1) (by decide +kernel))) (fun _ h9 => h9) rfl dX0_shift_36 ?_
  refine lv_aload_n hx hb dX0_shift_39 rfl (lv_at hl 0 rfl) ?_
  refine lv_iload_n hx hb dX0_shift_40 rfl (lv_at hl 1 rfl) ?_
  replace hf := ob_b hf
  obtain ⟨zr_9, hc_10, hf⟩ := hf
  refine vp_callSl (W.runV (As := [.int v1]) (rest := [.long w_4, .ref a_t]) ⟨hx, hb, hml, hown, hts⟩ (c_f_Chart_fieldsOf l D cT a_t a_kind a_place a_length a_gate a_across a_wide a_high a_shape k_width k_height k_barges k_walls w_4 (upd k_place v1.toNatClampNeg w_7) k_shape v1 _ hc_10) (cwV 1 hts gX0_shift_X0_fieldsOf rfl rfl rfl (by decide +kernel) ⟨Nat.le_of_ble_eq_true rfl, Nat.le_of_ble_eq_true rfl⟩) ⟨fun a U g mk q => by obtain ⟨q0, qP, qK, qN⟩ := q; exact ⟨q0, qP, va_K.moved (u := U) (U := U.calling g mk a) (Vm.Alike.refl U.vm) qK, jNw_same (u := U) (U := U.calling g mk a) rfl qN⟩, va_recv hK hP (ci := 0) (q0 := 0) rfl rfl, fun U hU hW => ⟨rfl, by rw [hU]; exact hP.sub [0, 1, 2] rfl, va_K.moved hW.alike hK, jNw_warm hW hN⟩⟩ rfl rfl hl.1 rfl (lv_room (Nat.le_of_ble_eq_true rfl)) dX0_shift_41 ⟨Nat.le_of_ble_eq_true rfl, Nat.le_of_ble_eq_true rfl⟩) (fun r_9 er_11 => ?_)
  subst er_11
  refine lv_lor hx hb dX0_shift_44 ?_
  refine lv_topl (fun w_12 ew_12 => ?_)
  replace hf := ob_nm ew_12 hf
  refine va_put (D := D) (ci := 0) (v := .long w_12) (ty := .long) (C := RX0) (T := TX0) (N := 13) hx hb hts iw_wsX0_shift_X0 tyX0 tyX0_ok nmX0 hown hK hP hD hS 0 rfl rfl 4 (by decide) (hts (.fieldLink RX0 55 "BargeBasin$Chart" "taken" "J") (List.mem_of_getElem? (i := 1) (by decide +kernel))) (fun _ h9 => h9) rfl (by decide +kernel) rfl rfl (Nat.le_of_ble_eq_true rfl) dX0_shift_45 (fun H locs hP hD hS => ?_)
  replace hP : va_P D vwCl [(a_t, .inr (0, [.int k_width, .int k_height, .int k_barges, .long k_walls, .long w_12, .ref a_kind, .ref a_place, .ref a_length, .ref a_gate, .ref a_across, .ref a_wide, .ref a_high, .ref a_shape])), (a_place, .inl (cT 0, 12, .inl (upd k_place v1.toNatClampNeg w_7))), (a_shape, .inl (cT 1, 12, .inr (.inl k_shape)))] H := hP
  replace hD : va_D A [(a_t, .inr (0, [.int k_width, .int k_height, .int k_barges, .long k_walls, .long w_12, .ref a_kind, .ref a_place, .ref a_length, .ref a_gate, .ref a_across, .ref a_wide, .ref a_high, .ref a_shape])), (a_place, .inl (cT 0, 12, .inl (upd k_place v1.toNatClampNeg w_7))), (a_shape, .inl (cT 1, 12, .inr (.inl k_shape)))] := hD
  replace hf := ob_t2 hf
  obtain ⟨ee0, ee1⟩ := hf
  subst ee0
  subst ee1
  exact W.vret hx hb hr (fun t ht hW => ⟨⟨(), rfl, trivial, by rw [ht]; exact hP, va_K.moved hW.alike hK, hD⟩, hS.F ht⟩) hS.2.2 dX0_shift_48
abbrev rm_BargeBasin_isBound : Room := { frames := 0, cells := 0, slots := 0, locals := 0 }
set_option maxHeartbeats 4000000 in
set_option maxRecDepth 100000 in
theorem c_f_BargeBasin_isBound (l : Launch) (D : va_G) (cT : Nat → ClassId) (v0 : Int32) (r0 : Int32) (hf : f_BargeBasin_isBound v0 = some r0) : Met l yX6_isBound wsX6_isBound rm_BargeBasin_isBound (va_Pc [.int v0] (fun U => True)) (vp_Si (fun r => r = r0)) 0 0 (fun _ => False) := by
  refine Met.ofW (cc := cX6_isBound) (maxL := 1) (ret := (some .boolean)) (by decide) rfl ?_
  intro p e s m args below meth c s₁ B hml hv
  obtain ⟨rfl, -⟩ := hv
  have hx := B.exec
  have hb := B.bytes
  have hr := B.returns
  have hts := atoms_spec (ws := wsX6_isBound) B.pre
  have hown : s.vm.findClass RX6 = some m.cls := findClass_of_methodNamed B.named
  have hlocks := B.notSynchronized
  have hl := lv_entry ([.int v0]) (n := 1) (Nat.le_of_ble_eq_true rfl)
  rw [lg_entry_eq]
  generalize (lg_sl ([.int v0]) ++ List.replicate (1 - (lg_sl ([.int v0])).length) Slot.unset).toArray = ls at hl ⊢
  have hl : lv_has ls 1 [(0, .int v0)] := hl
  unfold f_BargeBasin_isBound at hf
  refine lv_iload_n hx hb dX6_isBound_0 rfl (lv_at hl 0 rfl) ?_
  refine lv_iconst (v := 1) hx hb dX6_isBound_1 (by decide) ?_
  refine lv_icmp_eq (tgt := 10) hx hb dX6_isBound_2 (by decide) (fun c_1 => ?_) (fun c_1 => ?_)
  · replace hf := ob_pos c_1 hf
    refine lv_iconst (v := 1) hx hb dX6_isBound_10 (by decide) ?_
    refine lv_goto (tgt := 15) hx hb dX6_isBound_11 (by decide) ?_
    cases hf
    exact W.zret hx hb hr (by decide +kernel) (fun t ht hW => ⟨_, rfl, rfl, ht⟩) (fun q h => by cases h) dX6_isBound_15
  · replace hf := ob_neg c_1 hf
    refine lv_iload_n hx hb dX6_isBound_5 rfl (lv_at hl 0 rfl) ?_
    refine lv_iconst (v := 5) hx hb dX6_isBound_6 (by decide) ?_
    refine lv_icmp_ne (tgt := 14) hx hb dX6_isBound_7 (by decide) (fun c_2 => ?_) (fun c_2 => ?_)
    · replace hf := ob_neg c_2 hf
      refine lv_iconst (v := 0) hx hb dX6_isBound_14 (by decide) ?_
      cases hf
      exact W.zret hx hb hr (by decide +kernel) (fun t ht hW => ⟨_, rfl, rfl, ht⟩) (fun q h => by cases h) dX6_isBound_15
    · replace hf := ob_pos c_2 hf
      refine lv_iconst (v := 1) hx hb dX6_isBound_10 (by decide) ?_
      refine lv_goto (tgt := 15) hx hb dX6_isBound_11 (by decide) ?_
      cases hf
      exact W.zret hx hb hr (by decide +kernel) (fun t ht hW => ⟨_, rfl, rfl, ht⟩) (fun q h => by cases h) dX6_isBound_15
abbrev rm_Chart_beside : Room := { frames := 0, cells := 0, slots := 0, locals := 0 }
set_option maxHeartbeats 4000000 in
set_option maxRecDepth 100000 in
theorem c_f_Chart_beside (l : Launch) (D : va_G) (cT : Nat → ClassId) (v0 : Int32) (r0 : Int64) (hf : f_Chart_beside v0 = some r0) : Met l yX0_beside wsX0_beside rm_Chart_beside (va_Pc [.int v0] (fun U => True)) (vp_Sl (fun r => r = r0)) 0 0 (fun _ => False) := by
  refine Met.ofW (cc := cX0_beside) (maxL := 5) (ret := (some .long)) (by decide) rfl ?_
  intro p e s m args below meth c s₁ B hml hv
  obtain ⟨rfl, -⟩ := hv
  have hx := B.exec
  have hb := B.bytes
  have hr := B.returns
  have hts := atoms_spec (ws := wsX0_beside) B.pre
  have hown : s.vm.findClass RX0 = some m.cls := findClass_of_methodNamed B.named
  have hlocks := B.notSynchronized
  have hl := lv_entry ([.int v0]) (n := 5) (Nat.le_of_ble_eq_true rfl)
  rw [lg_entry_eq]
  generalize (lg_sl ([.int v0]) ++ List.replicate (5 - (lg_sl ([.int v0])).length) Slot.unset).toArray = ls at hl ⊢
  have hl : lv_has ls 5 [(0, .int v0)] := hl
  refine j_nameQ (fun Q hQ => ?_)
  have J27 : ∀ (v1 : Int64) (v3 : Int64), f_Chart_beside_J27 v0 v1 v3 = some r0 → ∀ (ls : Array Slot), lv_has ls 5 [(0, .int v0), (1, .long v1), (3, .long v3)] → W p l e (headSpec wsX0_beside rm_Chart_beside).room s m ([.int v0] : List Value).toArray below meth c s.heap [] 0 0 Q (F0 m 27 ls []) := by
    intro v1 v3 hf ls hl
    unfold f_Chart_beside_J27 at hf
    refine lv_iload_n hx hb dX0_beside_27 rfl (lv_at hl 0 rfl) ?_
    refine lv_bipush (v := 7) hx hb dX0_beside_28 (by decide) ?_
    refine lv_iand hx hb dX0_beside_30 ?_
    refine lv_bipush (v := 7) hx hb dX0_beside_31 (by decide) ?_
    refine lv_icmp_ge (tgt := 42) hx hb dX0_beside_33 (by decide) (fun c_4 => ?_) (fun c_4 => ?_)
    · replace hf := ob_pos c_4 hf
      refine lv_lload_n hx hb dX0_beside_42 rfl (lv_at hl 2 rfl) ?_
      cases hf
      subst hQ
      exact W.lret hx hb hr (fun t ht hW => ⟨_, rfl, rfl, ht⟩) (fun q h => by cases h) dX0_beside_43
    · replace hf := ob_neg c_4 hf
      refine lv_lload_n hx hb dX0_beside_36 rfl (lv_at hl 2 rfl) ?_
      refine lv_lload_n hx hb dX0_beside_37 rfl (lv_at hl 1 rfl) ?_
      refine lv_iconst (v := 1) hx hb dX0_beside_38 (by decide) ?_
      refine lv_lshl hx hb dX0_beside_39 rfl ?_
      refine lv_lor hx hb dX0_beside_40 ?_
      refine lv_topl (fun v3_5 ev3_5 => ?_)
      replace hf := ob_nm ev3_5 hf
      refine lv_lstore_n (lv' := [(3, .long v3_5), (0, .int v0), (1, .long v1)]) hx hb dX0_beside_41 rfl hl (by decide) rfl (fun ls hl => ?_)
      refine lv_lload_n hx hb dX0_beside_42 rfl (lv_at hl 0 rfl) ?_
      cases hf
      subst hQ
      exact W.lret hx hb hr (fun t ht hW => ⟨_, rfl, rfl, ht⟩) (fun q h => by cases h) dX0_beside_43
  unfold f_Chart_beside at hf
  refine lv_lconst (v := 1) hx hb dX0_beside_0 (by decide) ?_
  refine lv_iload_n hx hb dX0_beside_1 rfl (lv_at hl 0 rfl) ?_
  refine lv_lshl hx hb dX0_beside_2 rfl ?_
  refine lv_topl (fun v1_1 ev1_1 => ?_)
  replace hf := ob_nm ev1_1 hf
  refine lv_lstore_n (lv' := [(1, .long v1_1), (0, .int v0)]) hx hb dX0_beside_3 rfl hl (by decide) rfl (fun ls hl => ?_)
  refine lv_lload_n hx hb dX0_beside_4 rfl (lv_at hl 0 rfl) ?_
  refine lv_bipush (v := 8) hx hb dX0_beside_5 (by decide) ?_
  refine lv_lshl hx hb dX0_beside_7 rfl ?_
  refine lv_lload_n hx hb dX0_beside_8 rfl (lv_at hl 0 rfl) ?_
  refine lv_bipush (v := 8) hx hb dX0_beside_9 (by decide) ?_
  refine lv_lushr hx hb dX0_beside_11 rfl ?_
  refine lv_lor hx hb dX0_beside_12 ?_
  refine lv_topl (fun v3_2 ev3_2 => ?_)
  replace hf := ob_nm ev3_2 hf
  refine lv_lstore_n (lv' := [(3, .long v3_2), (1, .long v1_1), (0, .int v0)]) hx hb dX0_beside_13 rfl hl (by decide) rfl (fun ls hl => ?_)
  refine lv_iload_n hx hb dX0_beside_14 rfl (lv_at hl 2 rfl) ?_
  refine lv_bipush (v := 7) hx hb dX0_beside_15 (by decide) ?_
  refine lv_iand hx hb dX0_beside_17 ?_
  refine lv_if_le (tgt := 27) hx hb dX0_beside_18 (by decide) (fun c_3 => ?_) (fun c_3 => ?_)
  · replace hf := ob_pos c_3 hf
    exact J27 _ _ hf ls (lv_sub hl [2, 1, 0] rfl)
  · replace hf := ob_neg c_3 hf
    refine lv_lload_n hx hb dX0_beside_21 rfl (lv_at hl 0 rfl) ?_
    refine lv_lload_n hx hb dX0_beside_22 rfl (lv_at hl 1 rfl) ?_
    refine lv_iconst (v := 1) hx hb dX0_beside_23 (by decide) ?_
    refine lv_lushr hx hb dX0_beside_24 rfl ?_
    refine lv_lor hx hb dX0_beside_25 ?_
    refine lv_topl (fun v3_6 ev3_6 => ?_)
    replace hf := ob_nm ev3_6 hf
    refine lv_lstore_n (lv' := [(3, .long v3_6), (1, .long v1_1), (0, .int v0)]) hx hb dX0_beside_26 rfl hl (by decide) rfl (fun ls hl => ?_)
    exact J27 _ _ hf ls (lv_sub hl [2, 1, 0] rfl)
theorem iw_wsX0_hindrance_X0 : ∀ w ∈ wsX00, w ∈ wsX0_hindrance := fun _ h => List.mem_cons_of_mem _ (List.mem_append_right _ h)
abbrev rm_Chart_hindrance : Room := { frames := 1, cells := 0, slots := 0, locals := 24 }
set_option maxHeartbeats 4000000 in
set_option maxRecDepth 100000 in
theorem c_f_Chart_hindrance (l : Launch) (D : va_G) (cT : Nat → ClassId) (A : Nat → Prop) (a_t a_kind a_place a_length a_gate a_across a_wide a_high a_shape a_S_STEP a_S_STEP_X a_S_STEP_Y : Nat) (k_width : Int32) (k_height : Int32) (k_barges : Int32) (k_walls : Int64) (k_taken : Int64) (k_kind : Nat → Int32) (k_place : Nat → Int32) (k_across : Nat → Int32) (k_wide : Nat → Int32) (k_high : Nat → Int32) (k_shape : Nat → Int64) (v1 : Int32) (v2 : Int32) (v3 : Int32) (v4 : Int32) (r0 : Int32) (hf : f_Chart_hindrance v1 v2 v3 v4 k_width k_height k_walls k_taken k_kind k_place k_across k_wide k_high k_shape = some r0) : Met l yX0_hindrance wsX0_hindrance rm_Chart_hindrance (va_Pc [.ref a_t, .int v1, .int v2, .int v3, .int v4] (fun U => va_P D vwCl [(a_t, .inr (0, [.int k_width, .int k_height, .int k_barges, .long k_walls, .long k_taken, .ref a_kind, .ref a_place, .ref a_length, .ref a_gate, .ref a_across, .ref a_wide, .ref a_high, .ref a_shape])), (a_kind, .inl (cT 0, 12, .inl k_kind)), (a_place, .inl (cT 0, 12, .inl k_place)), (a_across, .inl (cT 2, 12, .inl k_across)), (a_wide, .inl (cT 0, 12, .inl k_wide)), (a_high, .inl (cT 0, 12, .inl k_high)), (a_shape, .inl (cT 1, 12, .inr (.inl k_shape)))] U.heap ∧ va_K D vwCl (jT cT) U ∧ jNw U ∧ va_Z "BargeBasin" "STEP" "[I" (.ref a_S_STEP) A U U.heap ∧ jX a_S_STEP sv_STEP A U U.heap ∧ va_Z "BargeBasin" "STEP_X" "[I" (.ref a_S_STEP_X) A U U.heap ∧ jX a_S_STEP_X sv_STEP_X A U U.heap ∧ va_Z "BargeBasin" "STEP_Y" "[I" (.ref a_S_STEP_Y) A U U.heap ∧ jX a_S_STEP_Y sv_STEP_Y A U U.heap)) (vp_Si (fun r => r = r0)) 0 0 (fun _ => False) := by
  refine Met.ofW (cc := cX0_hindrance) (maxL := 13) (ret := (some .int)) (by decide) rfl ?_
  intro p e s m args below meth c s₁ B hml hv
  obtain ⟨rfl, hP, hK, hN, hZ_STEP, hX_STEP, hZ_STEP_X, hX_STEP_X, hZ_STEP_Y, hX_STEP_Y⟩ := hv
  have hx := B.exec
  have hb := B.bytes
  have hr := B.returns
  have hts := atoms_spec (ws := wsX0_hindrance) B.pre
  have hown : s.vm.findClass RX0 = some m.cls := findClass_of_methodNamed B.named
  have hlocks := B.notSynchronized
  have hS : va_S A s.heap s.heap [] := va_S.rf
  have hl := lv_entry ([.ref a_t, .int v1, .int v2, .int v3, .int v4]) (n := 13) (Nat.le_of_ble_eq_true rfl)
  rw [lg_entry_eq]
  generalize (lg_sl ([.ref a_t, .int v1, .int v2, .int v3, .int v4]) ++ List.replicate (13 - (lg_sl ([.ref a_t, .int v1, .int v2, .int v3, .int v4])).length) Slot.unset).toArray = ls at hl ⊢
  have hl : lv_has ls 13 [(0, .ref a_t), (1, .int v1), (2, .int v2), (3, .int v3), (4, .int v4)] := hl
  refine j_nameQ (fun Q hQ => ?_)
  have J169 : ∀ (v11 : Int64) (s0 : Int32), f_Chart_hindrance_J169 v11 s0 = some r0 → ∀ (ls : Array Slot), lv_has ls 13 [(11, .long v11)] → W p l e (headSpec wsX0_hindrance rm_Chart_hindrance).room s m ([.ref a_t, .int v1, .int v2, .int v3, .int v4] : List Value).toArray below meth c s.heap [] 0 0 Q (F0 m 169 ls [.int s0]) := by
    intro v11 s0 hf ls hl
    unfold f_Chart_hindrance_J169 at hf
    replace hf := ob_b hf
    obtain ⟨zr_30, hc_31, hf⟩ := hf
    refine vp_callSl (W.runS (As := [.int s0]) (rest := []) ⟨hx, hb, hml, hown, hts⟩ (c_f_Chart_beside l D cT s0 _ hc_31) (cwS 1 hts gX0_hindrance_X0_beside rfl rfl rfl (by decide +kernel) ⟨Nat.le_of_ble_eq_true rfl, Nat.le_of_ble_eq_true rfl⟩) ⟨fun a U g mk q => q, fun U hU hW => ⟨rfl, trivial⟩⟩ rfl rfl hl.1 rfl (lv_room (Nat.le_of_ble_eq_true rfl)) dX0_hindrance_169 ⟨Nat.le_of_ble_eq_true rfl, Nat.le_of_ble_eq_true rfl⟩) (fun r_30 er_32 => ?_)
    subst er_32
    refine lv_lload hx hb dX0_hindrance_172 (lv_at hl 0 rfl) ?_
    refine lv_land hx hb dX0_hindrance_174 ?_
    refine lv_lconst (v := 0) hx hb dX0_hindrance_175 (by decide) ?_
    refine W.lcmp hx hb dX0_hindrance_176 ?_
    refine lv_if_eq (tgt := 184) hx hb dX0_hindrance_177 (by decide) (fun c_33 => ?_) (fun c_33 => ?_)
    · replace hf := ob_pos c_33 hf
      refine lv_iconst (v := 0) hx hb dX0_hindrance_184 (by decide) ?_
      cases hf
      subst hQ
      exact W.iret hx hb hr (fun t ht hW => ⟨_, rfl, rfl, ht⟩) (fun q h => by cases h) dX0_hindrance_185
    · replace hf := ob_neg c_33 hf
      refine lv_iconst (v := 5) hx hb dX0_hindrance_180 (by decide) ?_
      refine lv_goto (tgt := 185) hx hb dX0_hindrance_181 (by decide) ?_
      cases hf
      subst hQ
      exact W.iret hx hb hr (fun t ht hW => ⟨_, rfl, rfl, ht⟩) (fun q h => by cases h) dX0_hindrance_185
  have J38 : ∀ (_ : Unit), f_Chart_hindrance_J38 v1 v2 v3 v4 k_width k_height k_walls k_taken k_kind k_place k_wide k_high k_shape = some r0 → ∀ (ls : Array Slot), lv_has ls 13 [(0, .ref a_t), (1, .int v1), (2, .int v2), (3, .int v3), (4, .int v4)] → W p l e (headSpec wsX0_hindrance rm_Chart_hindrance).room s m ([.ref a_t, .int v1, .int v2, .int v3, .int v4] : List Value).toArray below meth c s.heap [] 0 0 Q (F0 m 38 ls []) := by
    intro _ hf ls hl
    unfold f_Chart_hindrance_J38 at hf
    refine lv_iload_n hx hb dX0_hindrance_38 rfl (lv_at hl 2 rfl) ?_
    refine lv_bipush (v := 7) hx hb dX0_hindrance_39 (by decide) ?_
    refine lv_iand hx hb dX0_hindrance_41 ?_
    refine va_getsN hx hb (C := "BargeBasin") (n := "STEP_X") (d := "[I") (v := .ref a_S_STEP_X) (hZ_STEP_X) hS hown (va_Nw.use (w := .fieldLinkNest RX0 109 RX6 "STEP_X" "[I" "BargeBasin") rfl (hN.1 _ (List.mem_of_getElem? (i := 2) (by decide +kernel)))) (fun _ h9 => h9) dX0_hindrance_42 ?_
    refine lv_iload_n hx hb dX0_hindrance_45 rfl (lv_at hl 3 rfl) ?_
    replace hf := ob_grd hf
    obtain ⟨hi_7, hf⟩ := hf
    refine va_sld hx hb hX_STEP_X.1 hX_STEP_X.2.1 hX_STEP_X.2.2 hS hi_7 dX0_hindrance_46 ?_
    refine lv_iadd hx hb dX0_hindrance_47 ?_
    refine lv_topi (fun v6_8 ev6_8 => ?_)
    replace hf := ob_nm ev6_8 hf
    refine lv_istore (lv' := [(6, .int v6_8), (0, .ref a_t), (1, .int v1), (2, .int v2), (3, .int v3), (4, .int v4)]) hx hb dX0_hindrance_48 hl (by decide) rfl (fun ls hl => ?_)
    refine lv_iload_n hx hb dX0_hindrance_50 rfl (lv_at hl 3 rfl) ?_
    refine lv_iconst (v := 3) hx hb dX0_hindrance_51 (by decide) ?_
    refine lv_ishr hx hb dX0_hindrance_52 ?_
    refine va_getsN hx hb (C := "BargeBasin") (n := "STEP_Y") (d := "[I") (v := .ref a_S_STEP_Y) (hZ_STEP_Y) hS hown (va_Nw.use (w := .fieldLinkNest RX0 112 RX6 "STEP_Y" "[I" "BargeBasin") rfl (hN.1 _ (List.mem_of_getElem? (i := 3) (by decide +kernel)))) (fun _ h9 => h9) dX0_hindrance_53 ?_
    refine lv_iload_n hx hb dX0_hindrance_56 rfl (lv_at hl 4 rfl) ?_
    replace hf := ob_grd hf
    obtain ⟨hi_9, hf⟩ := hf
    refine va_sld hx hb hX_STEP_Y.1 hX_STEP_Y.2.1 hX_STEP_Y.2.2 hS hi_9 dX0_hindrance_57 ?_
    refine lv_iadd hx hb dX0_hindrance_58 ?_
    refine lv_topi (fun v7_10 ev7_10 => ?_)
    replace hf := ob_nm ev7_10 hf
    refine lv_istore (lv' := [(7, .int v7_10), (6, .int v6_8), (0, .ref a_t), (1, .int v1), (2, .int v2), (3, .int v3), (4, .int v4)]) hx hb dX0_hindrance_59 hl (by decide) rfl (fun ls hl => ?_)
    refine lv_aload_n hx hb dX0_hindrance_61 rfl (lv_at hl 2 rfl) ?_
    refine lv_iload hx hb dX0_hindrance_62 (lv_at hl 1 rfl) ?_
    refine lv_iload hx hb dX0_hindrance_64 (lv_at hl 0 rfl) ?_
    refine lv_aload_n hx hb dX0_hindrance_66 rfl (lv_at hl 2 rfl) ?_
    refine va_get (D := D) (ci := 0) (v := .ref a_wide) (C := RX0) (T := TX0) (N := 13) hx hb hts iw_wsX0_hindrance_X0 hown hK hP 0 rfl rfl 10 (by decide) (hts (.fieldLink RX0 28 "BargeBasin$Chart" "wide" "[I") (List.mem_of_getElem? (i := 3) (by decide +kernel))) (fun _ h9 => h9) rfl dX0_hindrance_67 ?_
    refine lv_iload_n hx hb dX0_hindrance_70 rfl (lv_at hl 3 rfl) ?_
    replace hf := ob_grd hf
    obtain ⟨hi_11, hf⟩ := hf
    refine va_iald hx hb hK hP 4 0 rfl rfl hi_11 dX0_hindrance_71 ?_
    refine lv_aload_n hx hb dX0_hindrance_72 rfl (lv_at hl 2 rfl) ?_
    refine va_get (D := D) (ci := 0) (v := .ref a_high) (C := RX0) (T := TX0) (N := 13) hx hb hts iw_wsX0_hindrance_X0 hown hK hP 0 rfl rfl 11 (by decide) (hts (.fieldLink RX0 31 "BargeBasin$Chart" "high" "[I") (List.mem_of_getElem? (i := 4) (by decide +kernel))) (fun _ h9 => h9) rfl dX0_hindrance_73 ?_
    refine lv_iload_n hx hb dX0_hindrance_76 rfl (lv_at hl 3 rfl) ?_
    replace hf := ob_grd hf
    obtain ⟨hi_12, hf⟩ := hf
    refine va_iald hx hb hK hP 5 0 rfl rfl hi_12 dX0_hindrance_77 ?_
    replace hf := ob_b hf
    obtain ⟨zr_13, hc_14, hf⟩ := hf
    refine vp_callSi (W.runV (As := [.int v6_8, .int v7_10, .int (k_wide v1.toNatClampNeg), .int (k_high v1.toNatClampNeg)]) (rest := []) ⟨hx, hb, hml, hown, hts⟩ (c_f_Chart_isInside l D cT a_t a_kind a_place a_length a_gate a_across a_wide a_high a_shape k_width k_height k_barges k_walls k_taken v6_8 v7_10 (k_wide v1.toNatClampNeg) (k_high v1.toNatClampNeg) _ hc_14) (cwV 4 hts gX0_hindrance_X0_isInside rfl rfl rfl (by decide +kernel) ⟨Nat.le_of_ble_eq_true rfl, Nat.le_of_ble_eq_true rfl⟩) ⟨fun a U g mk q => by obtain ⟨q0, qP, qK, qN⟩ := q; exact ⟨q0, qP, va_K.moved (u := U) (U := U.calling g mk a) (Vm.Alike.refl U.vm) qK, jNw_same (u := U) (U := U.calling g mk a) rfl qN⟩, va_recv hK hP (ci := 0) (q0 := 0) rfl rfl, fun U hU hW => ⟨rfl, by rw [hU]; exact hP.sub [0] rfl, va_K.moved hW.alike hK, jNw_warm hW hN⟩⟩ rfl rfl hl.1 rfl (lv_room (Nat.le_of_ble_eq_true rfl)) dX0_hindrance_78 ⟨Nat.le_of_ble_eq_true rfl, Nat.le_of_ble_eq_true rfl⟩) (fun r_13 er_15 => ?_)
    subst er_15
    refine lv_if_ne (tgt := 86) hx hb dX0_hindrance_81 (by decide) (fun c_16 => ?_) (fun c_16 => ?_)
    · replace hf := ob_neg c_16 hf
      refine lv_iload_n hx hb dX0_hindrance_86 rfl (lv_at hl 4 rfl) ?_
      refine va_getsN hx hb (C := "BargeBasin") (n := "STEP") (d := "[I") (v := .ref a_S_STEP) (hZ_STEP) hS hown (va_Nw.use (w := .fieldLinkNest RX0 102 RX6 "STEP" "[I" "BargeBasin") rfl (hN.1 _ (List.mem_of_getElem? (i := 0) (by decide +kernel)))) (fun _ h9 => h9) dX0_hindrance_87 ?_
      refine lv_iload_n hx hb dX0_hindrance_90 rfl (lv_at hl 5 rfl) ?_
      replace hf := ob_grd hf
      obtain ⟨hi_17, hf⟩ := hf
      refine va_sld hx hb hX_STEP.1 hX_STEP.2.1 hX_STEP.2.2 hS hi_17 dX0_hindrance_91 ?_
      refine lv_iadd hx hb dX0_hindrance_92 ?_
      refine lv_topi (fun v8_18 ev8_18 => ?_)
      replace hf := ob_nm ev8_18 hf
      refine lv_istore (lv' := [(8, .int v8_18), (7, .int v7_10), (6, .int v6_8), (0, .ref a_t), (1, .int v1), (2, .int v2), (3, .int v3), (4, .int v4)]) hx hb dX0_hindrance_93 hl (by decide) rfl (fun ls hl => ?_)
      refine lv_aload_n hx hb dX0_hindrance_95 rfl (lv_at hl 3 rfl) ?_
      refine va_get (D := D) (ci := 0) (v := .ref a_shape) (C := RX0) (T := TX0) (N := 13) hx hb hts iw_wsX0_hindrance_X0 hown hK hP 0 rfl rfl 12 (by decide) (hts (.fieldLink RX0 34 "BargeBasin$Chart" "shape" "[J") (List.mem_of_getElem? (i := 5) (by decide +kernel))) (fun _ h9 => h9) rfl dX0_hindrance_96 ?_
      refine lv_iload_n hx hb dX0_hindrance_99 rfl (lv_at hl 4 rfl) ?_
      replace hf := ob_grd hf
      obtain ⟨hi_19, hf⟩ := hf
      refine va_lald hx hb hK hP 6 1 rfl rfl hi_19 dX0_hindrance_100 ?_
      refine lv_iload hx hb dX0_hindrance_101 (lv_at hl 0 rfl) ?_
      refine lv_lshl hx hb dX0_hindrance_103 rfl ?_
      refine lv_topl (fun v9_20 ev9_20 => ?_)
      replace hf := ob_nm ev9_20 hf
      refine lv_lstore (lv' := [(9, .long v9_20), (8, .int v8_18), (7, .int v7_10), (6, .int v6_8), (0, .ref a_t), (1, .int v1), (2, .int v2), (3, .int v3), (4, .int v4)]) hx hb dX0_hindrance_104 hl (by decide) rfl (fun ls hl => ?_)
      refine lv_lload hx hb dX0_hindrance_106 (lv_at hl 0 rfl) ?_
      refine lv_aload_n hx hb dX0_hindrance_108 rfl (lv_at hl 4 rfl) ?_
      refine va_get (D := D) (ci := 0) (v := .long k_walls) (C := RX0) (T := TX0) (N := 13) hx hb hts iw_wsX0_hindrance_X0 hown hK hP 0 rfl rfl 3 (by decide) (hts (.fieldLink RX0 45 "BargeBasin$Chart" "walls" "J") (List.mem_of_getElem? (i := 6) (by decide +kernel))) (fun _ h9 => h9) rfl dX0_hindrance_109 ?_
      refine lv_land hx hb dX0_hindrance_112 ?_
      refine lv_lconst (v := 0) hx hb dX0_hindrance_113 (by decide) ?_
      refine W.lcmp hx hb dX0_hindrance_114 ?_
      refine lv_if_eq (tgt := 120) hx hb dX0_hindrance_115 (by decide) (fun c_21 => ?_) (fun c_21 => ?_)
      · replace hf := ob_pos c_21 hf
        refine lv_aload_n hx hb dX0_hindrance_120 rfl (lv_at hl 4 rfl) ?_
        refine va_get (D := D) (ci := 0) (v := .long k_taken) (C := RX0) (T := TX0) (N := 13) hx hb hts iw_wsX0_hindrance_X0 hown hK hP 0 rfl rfl 4 (by decide) (hts (.fieldLink RX0 55 "BargeBasin$Chart" "taken" "J") (List.mem_of_getElem? (i := 7) (by decide +kernel))) (fun _ h9 => h9) rfl dX0_hindrance_121 ?_
        refine lv_aload_n hx hb dX0_hindrance_124 rfl (lv_at hl 4 rfl) ?_
        refine lv_iload_n hx hb dX0_hindrance_125 rfl (lv_at hl 5 rfl) ?_
        replace hf := ob_b hf
        obtain ⟨zr_22, hc_23, hf⟩ := hf
        refine vp_callSl (W.runV (As := [.int v1]) (rest := [.long k_taken]) ⟨hx, hb, hml, hown, hts⟩ (c_f_Chart_fieldsOf l D cT a_t a_kind a_place a_length a_gate a_across a_wide a_high a_shape k_width k_height k_barges k_walls k_taken k_place k_shape v1 _ hc_23) (cwV 1 hts gX0_hindrance_X0_fieldsOf rfl rfl rfl (by decide +kernel) ⟨Nat.le_of_ble_eq_true rfl, Nat.le_of_ble_eq_true rfl⟩) ⟨fun a U g mk q => by obtain ⟨q0, qP, qK, qN⟩ := q; exact ⟨q0, qP, va_K.moved (u := U) (U := U.calling g mk a) (Vm.Alike.refl U.vm) qK, jNw_same (u := U) (U := U.calling g mk a) rfl qN⟩, va_recv hK hP (ci := 0) (q0 := 0) rfl rfl, fun U hU hW => ⟨rfl, by rw [hU]; exact hP.sub [0, 2, 6] rfl, va_K.moved hW.alike hK, jNw_warm hW hN⟩⟩ rfl rfl hl.1 rfl (lv_room (Nat.le_of_ble_eq_true rfl)) dX0_hindrance_126 ⟨Nat.le_of_ble_eq_true rfl, Nat.le_of_ble_eq_true rfl⟩) (fun r_22 er_24 => ?_)
        subst er_24
        refine lv_ldc2 hx hb hown (hts (.constantLong RX0 64 (-1)) (List.mem_of_getElem? (i := 8) (by decide +kernel))) dX0_hindrance_129 ?_
        refine lv_lxor hx hb dX0_hindrance_132 ?_
        refine lv_land hx hb dX0_hindrance_133 ?_
        refine lv_topl (fun v11_25 ev11_25 => ?_)
        replace hf := ob_nm ev11_25 hf
        refine lv_lstore (lv' := [(11, .long v11_25), (9, .long v9_20), (8, .int v8_18), (7, .int v7_10), (6, .int v6_8), (0, .ref a_t), (1, .int v1), (2, .int v2), (3, .int v3), (4, .int v4)]) hx hb dX0_hindrance_134 hl (by decide) rfl (fun ls hl => ?_)
        refine lv_lload hx hb dX0_hindrance_136 (lv_at hl 1 rfl) ?_
        refine lv_lload hx hb dX0_hindrance_138 (lv_at hl 0 rfl) ?_
        refine lv_land hx hb dX0_hindrance_140 ?_
        refine lv_lconst (v := 0) hx hb dX0_hindrance_141 (by decide) ?_
        refine W.lcmp hx hb dX0_hindrance_142 ?_
        refine lv_if_eq (tgt := 148) hx hb dX0_hindrance_143 (by decide) (fun c_26 => ?_) (fun c_26 => ?_)
        · replace hf := ob_pos c_26 hf
          refine lv_aload_n hx hb dX0_hindrance_148 rfl (lv_at hl 5 rfl) ?_
          refine va_get (D := D) (ci := 0) (v := .ref a_kind) (C := RX0) (T := TX0) (N := 13) hx hb hts iw_wsX0_hindrance_X0 hown hK hP 0 rfl rfl 5 (by decide) (hts (.fieldLink RX0 9 "BargeBasin$Chart" "kind" "[I") (List.mem_of_getElem? (i := 1) (by decide +kernel))) (fun _ h9 => h9) rfl dX0_hindrance_149 ?_
          refine lv_iload_n hx hb dX0_hindrance_152 rfl (lv_at hl 6 rfl) ?_
          replace hf := ob_grd hf
          obtain ⟨hi_27, hf⟩ := hf
          refine va_iald hx hb hK hP 1 0 rfl rfl hi_27 dX0_hindrance_153 ?_
          refine lv_iconst (v := 4) hx hb dX0_hindrance_154 (by decide) ?_
          refine lv_icmp_ne (tgt := 184) hx hb dX0_hindrance_155 (by decide) (fun c_28 => ?_) (fun c_28 => ?_)
          · replace hf := ob_neg c_28 hf
            refine lv_iconst (v := 0) hx hb dX0_hindrance_184 (by decide) ?_
            cases hf
            subst hQ
            exact W.iret hx hb hr (fun t ht hW => ⟨_, rfl, rfl, ht⟩) (fun q h => by cases h) dX0_hindrance_185
          · replace hf := ob_pos c_28 hf
            refine lv_iload hx hb dX0_hindrance_158 (lv_at hl 9 rfl) ?_
            refine lv_if_eq (tgt := 168) hx hb dX0_hindrance_160 (by decide) (fun c_29 => ?_) (fun c_29 => ?_)
            · replace hf := ob_pos c_29 hf
              refine lv_iload_n hx hb dX0_hindrance_168 rfl (lv_at hl 7 rfl) ?_
              exact J169 _ _ hf ls (lv_sub hl [0] rfl)
            · replace hf := ob_neg c_29 hf
              refine lv_iload hx hb dX0_hindrance_163 (lv_at hl 2 rfl) ?_
              refine lv_goto (tgt := 169) hx hb dX0_hindrance_165 (by decide) ?_
              exact J169 _ _ hf ls (lv_sub hl [0] rfl)
        · replace hf := ob_neg c_26 hf
          refine lv_iconst (v := 4) hx hb dX0_hindrance_146 (by decide) ?_
          cases hf
          subst hQ
          exact W.iret hx hb hr (fun t ht hW => ⟨_, rfl, rfl, ht⟩) (fun q h => by cases h) dX0_hindrance_147
      · replace hf := ob_neg c_21 hf
        refine lv_iconst (v := 3) hx hb dX0_hindrance_118 (by decide) ?_
        cases hf
        subst hQ
        exact W.iret hx hb hr (fun t ht hW => ⟨_, rfl, rfl, ht⟩) (fun q h => by cases h) dX0_hindrance_119
    · replace hf := ob_pos c_16 hf
      refine lv_iconst (v := 2) hx hb dX0_hindrance_84 (by decide) ?_
      cases hf
      subst hQ
      exact W.iret hx hb hr (fun t ht hW => ⟨_, rfl, rfl, ht⟩) (fun q h => by cases h) dX0_hindrance_85
  have J11 : ∀ (s0 : Int32), f_Chart_hindrance_J11 v1 v2 v3 v4 s0 k_width k_height k_walls k_taken k_kind k_place k_across k_wide k_high k_shape = some r0 → ∀ (ls : Array Slot), lv_has ls 13 [(0, .ref a_t), (1, .int v1), (2, .int v2), (3, .int v3), (4, .int v4)] → W p l e (headSpec wsX0_hindrance rm_Chart_hindrance).room s m ([.ref a_t, .int v1, .int v2, .int v3, .int v4] : List Value).toArray below meth c s.heap [] 0 0 Q (F0 m 11 ls [.int s0]) := by
    intro s0 hf ls hl
    unfold f_Chart_hindrance_J11 at hf
    refine lv_istore (lv' := [(5, .int s0), (0, .ref a_t), (1, .int v1), (2, .int v2), (3, .int v3), (4, .int v4)]) hx hb dX0_hindrance_11 hl (by decide) rfl (fun ls hl => ?_)
    refine lv_aload_n hx hb dX0_hindrance_13 rfl (lv_at hl 1 rfl) ?_
    refine va_get (D := D) (ci := 0) (v := .ref a_kind) (C := RX0) (T := TX0) (N := 13) hx hb hts iw_wsX0_hindrance_X0 hown hK hP 0 rfl rfl 5 (by decide) (hts (.fieldLink RX0 9 "BargeBasin$Chart" "kind" "[I") (List.mem_of_getElem? (i := 1) (by decide +kernel))) (fun _ h9 => h9) rfl dX0_hindrance_14 ?_
    refine lv_iload_n hx hb dX0_hindrance_17 rfl (lv_at hl 2 rfl) ?_
    replace hf := ob_grd hf
    obtain ⟨hi_2, hf⟩ := hf
    refine va_iald hx hb hK hP 1 0 rfl rfl hi_2 dX0_hindrance_18 ?_
    replace hf := ob_b hf
    obtain ⟨zr_3, hc_4, hf⟩ := hf
    refine vp_callSi (j_run (va_runSN (As := [.int (k_kind v1.toNatClampNeg)]) (rest := []) ⟨hx, hb, hml, hown, hts⟩ (c_f_BargeBasin_isBound l D cT (k_kind v1.toNatClampNeg) _ hc_4) ⟨va_cnB 1 hts gX0_hindrance_X6_isBound_n105 rfl rfl rfl (hN.1 (.methodLinkNest RX0 105 yX6_isBound "BargeBasin") (List.mem_of_getElem? (i := 1) (by decide +kernel))) (hts (.initialized RX6) (List.mem_of_getElem? (i := 10) (by decide +kernel))) (by decide +kernel) ⟨Nat.le_of_ble_eq_true rfl, Nat.le_of_ble_eq_true rfl⟩, (hts (.static yX6_isBound) (List.mem_of_getElem? (i := 9) (by decide +kernel))), trivial⟩ ⟨fun a U g mk q => q, fun U hU hW => ⟨rfl, trivial⟩⟩ rfl rfl hl.1 rfl (lv_room (Nat.le_of_ble_eq_true rfl)) dX0_hindrance_19 ⟨Nat.le_of_ble_eq_true rfl, Nat.le_of_ble_eq_true rfl⟩)) (fun r_3 er_5 => ?_)
    subst er_5
    refine lv_if_eq (tgt := 38) hx hb dX0_hindrance_22 (by decide) (fun c_6 => ?_) (fun c_6 => ?_)
    · replace hf := ob_pos c_6 hf
      exact J38 () hf ls (lv_sub hl [1, 2, 3, 4, 5] rfl)
    · replace hf := ob_neg c_6 hf
      refine lv_aload_n hx hb dX0_hindrance_25 rfl (lv_at hl 1 rfl) ?_
      refine va_get (D := D) (ci := 0) (v := .ref a_across) (C := RX0) (T := TX0) (N := 13) hx hb hts iw_wsX0_hindrance_X0 hown hK hP 0 rfl rfl 9 (by decide) (hts (.fieldLink RX0 24 "BargeBasin$Chart" "across" "[Z") (List.mem_of_getElem? (i := 2) (by decide +kernel))) (fun _ h9 => h9) rfl dX0_hindrance_26 ?_
      refine lv_iload_n hx hb dX0_hindrance_29 rfl (lv_at hl 2 rfl) ?_
      replace hf := ob_grd hf
      obtain ⟨hi_34, hf⟩ := hf
      refine va_zald hx hb hK hP 3 2 rfl rfl hi_34 dX0_hindrance_30 ?_
      refine lv_iload hx hb dX0_hindrance_31 (lv_at hl 0 rfl) ?_
      refine lv_icmp_eq (tgt := 38) hx hb dX0_hindrance_33 (by decide) (fun c_35 => ?_) (fun c_35 => ?_)
      · replace hf := ob_pos c_35 hf
        exact J38 () hf ls (lv_sub hl [1, 2, 3, 4, 5] rfl)
      · replace hf := ob_neg c_35 hf
        refine lv_iconst (v := 1) hx hb dX0_hindrance_36 (by decide) ?_
        cases hf
        subst hQ
        exact W.iret hx hb hr (fun t ht hW => ⟨_, rfl, rfl, ht⟩) (fun q h => by cases h) dX0_hindrance_37
  unfold f_Chart_hindrance at hf
  refine lv_iload_n hx hb dX0_hindrance_0 rfl (lv_at hl 3 rfl) ?_
  refine lv_iconst (v := 1) hx hb dX0_hindrance_1 (by decide) ?_
  refine lv_iand hx hb dX0_hindrance_2 ?_
  refine lv_if_ne (tgt := 10) hx hb dX0_hindrance_3 (by decide) (fun c_1 => ?_) (fun c_1 => ?_)
  · replace hf := ob_neg c_1 hf
    refine lv_iconst (v := 0) hx hb dX0_hindrance_10 (by decide) ?_
    exact J11 _ hf ls (lv_sub hl [0, 1, 2, 3, 4] rfl)
  · replace hf := ob_pos c_1 hf
    refine lv_iconst (v := 1) hx hb dX0_hindrance_6 (by decide) ?_
    refine lv_goto (tgt := 11) hx hb dX0_hindrance_7 (by decide) ?_
    exact J11 _ hf ls (lv_sub hl [0, 1, 2, 3, 4] rfl)
theorem iw_wsX0_hinderer_X0 : ∀ w ∈ wsX00, w ∈ wsX0_hinderer := fun _ h => List.mem_cons_of_mem _ (List.mem_append_right _ h)
abbrev rm_Chart_hinderer : Room := { frames := 2, cells := 0, slots := 0, locals := 45 }
set_option maxHeartbeats 4000000 in
set_option maxRecDepth 100000 in
theorem c_f_Chart_hinderer (l : Launch) (D : va_G) (cT : Nat → ClassId) (A : Nat → Prop) (a_t a_kind a_place a_length a_gate a_across a_wide a_high a_shape a_S_STEP : Nat) (k_width : Int32) (k_height : Int32) (k_barges : Int32) (k_walls : Int64) (k_taken : Int64) (k_place : Nat → Int32) (k_shape : Nat → Int64) (v1 : Int32) (v2 : Int32) (v3 : Int32) (v4 : Int32) (r0 : Int32) (hf : f_Chart_hinderer v1 v2 v3 v4 k_barges k_place k_shape = some r0) : Met l yX0_hinderer wsX0_hinderer rm_Chart_hinderer (va_Pc [.ref a_t, .int v1, .int v2, .int v3, .int v4] (fun U => va_P D vwCl [(a_t, .inr (0, [.int k_width, .int k_height, .int k_barges, .long k_walls, .long k_taken, .ref a_kind, .ref a_place, .ref a_length, .ref a_gate, .ref a_across, .ref a_wide, .ref a_high, .ref a_shape])), (a_place, .inl (cT 0, 12, .inl k_place)), (a_shape, .inl (cT 1, 12, .inr (.inl k_shape)))] U.heap ∧ va_K D vwCl (jT cT) U ∧ jNw U ∧ va_Z "BargeBasin" "STEP" "[I" (.ref a_S_STEP) A U U.heap ∧ jX a_S_STEP sv_STEP A U U.heap)) (vp_Si (fun r => r = r0)) 0 0 (fun _ => False) := by
  refine Met.ofW (cc := cX0_hinderer) (maxL := 5) (ret := (some .int)) (by decide) rfl ?_
  intro p e s m args below meth c s₁ B hml hv
  obtain ⟨rfl, hP, hK, hN, hZ_STEP, hX_STEP⟩ := hv
  have hx := B.exec
  have hb := B.bytes
  have hr := B.returns
  have hts := atoms_spec (ws := wsX0_hinderer) B.pre
  have hown : s.vm.findClass RX0 = some m.cls := findClass_of_methodNamed B.named
  have hlocks := B.notSynchronized
  have hS : va_S A s.heap s.heap [] := va_S.rf
  have hl := lv_entry ([.ref a_t, .int v1, .int v2, .int v3, .int v4]) (n := 5) (Nat.le_of_ble_eq_true rfl)
  rw [lg_entry_eq]
  generalize (lg_sl ([.ref a_t, .int v1, .int v2, .int v3, .int v4]) ++ List.replicate (5 - (lg_sl ([.ref a_t, .int v1, .int v2, .int v3, .int v4])).length) Slot.unset).toArray = ls at hl ⊢
  have hl : lv_has ls 5 [(0, .ref a_t), (1, .int v1), (2, .int v2), (3, .int v3), (4, .int v4)] := hl
  unfold f_Chart_hinderer at hf
  refine lv_iload hx hb dX0_hinderer_0 (lv_at hl 4 rfl) ?_
  refine lv_iconst (v := 4) hx hb dX0_hinderer_2 (by decide) ?_
  refine lv_icmp_ne (tgt := 26) hx hb dX0_hinderer_3 (by decide) (fun c_1 => ?_) (fun c_1 => ?_)
  · replace hf := ob_neg c_1 hf
    refine lv_iload hx hb dX0_hinderer_26 (lv_at hl 4 rfl) ?_
    refine lv_iconst (v := 5) hx hb dX0_hinderer_28 (by decide) ?_
    refine lv_icmp_ne (tgt := 44) hx hb dX0_hinderer_29 (by decide) (fun c_2 => ?_) (fun c_2 => ?_)
    · replace hf := ob_neg c_2 hf
      refine lv_iconst (v := -1) hx hb dX0_hinderer_44 (by decide) ?_
      cases hf
      exact W.iret hx hb hr (fun t ht hW => ⟨_, rfl, rfl, ht⟩) (fun q h => by cases h) dX0_hinderer_45
    · replace hf := ob_pos c_2 hf
      refine lv_aload_n hx hb dX0_hinderer_32 rfl (lv_at hl 0 rfl) ?_
      refine lv_iload_n hx hb dX0_hinderer_33 rfl (lv_at hl 2 rfl) ?_
      replace hf := ob_b hf
      obtain ⟨zr_3, hc_4, hf⟩ := hf
      refine vp_callSl (W.runS (As := [.int v2]) (rest := [.ref a_t]) ⟨hx, hb, hml, hown, hts⟩ (c_f_Chart_beside l D cT v2 _ hc_4) (cwS 1 hts gX0_hinderer_X0_beside rfl rfl rfl (by decide +kernel) ⟨Nat.le_of_ble_eq_true rfl, Nat.le_of_ble_eq_true rfl⟩) ⟨fun a U g mk q => q, fun U hU hW => ⟨rfl, trivial⟩⟩ rfl rfl hl.1 rfl (lv_room (Nat.le_of_ble_eq_true rfl)) dX0_hinderer_34 ⟨Nat.le_of_ble_eq_true rfl, Nat.le_of_ble_eq_true rfl⟩) (fun r_3 er_5 => ?_)
      subst er_5
      refine lv_iload_n hx hb dX0_hinderer_37 rfl (lv_at hl 1 rfl) ?_
      replace hf := ob_b hf
      obtain ⟨zr_6, hc_7, hf⟩ := hf
      refine vp_callSi (W.runV (As := [.long r_3, .int v1]) (rest := []) ⟨hx, hb, hml, hown, hts⟩ (c_f_Chart_firstIn l D cT a_t a_kind a_place a_length a_gate a_across a_wide a_high a_shape k_width k_height k_barges k_walls k_taken k_place k_shape r_3 v1 _ hc_7) (cwV 2 hts gX0_hinderer_X0_firstIn rfl rfl rfl (by decide +kernel) ⟨Nat.le_of_ble_eq_true rfl, Nat.le_of_ble_eq_true rfl⟩) ⟨fun a U g mk q => by obtain ⟨q0, qP, qK, qN⟩ := q; exact ⟨q0, qP, va_K.moved (u := U) (U := U.calling g mk a) (Vm.Alike.refl U.vm) qK, jNw_same (u := U) (U := U.calling g mk a) rfl qN⟩, va_recv hK hP (ci := 0) (q0 := 0) rfl rfl, fun U hU hW => ⟨rfl, by rw [hU]; exact hP.sub [0, 1, 2] rfl, va_K.moved hW.alike hK, jNw_warm hW hN⟩⟩ rfl rfl hl.1 rfl (lv_room (Nat.le_of_ble_eq_true rfl)) dX0_hinderer_38 ⟨Nat.le_of_ble_eq_true rfl, Nat.le_of_ble_eq_true rfl⟩) (fun r_6 er_8 => ?_)
      subst er_8
      refine lv_goto (tgt := 45) hx hb dX0_hinderer_41 (by decide) ?_
      cases hf
      exact W.iret hx hb hr (fun t ht hW => ⟨_, rfl, rfl, ht⟩) (fun q h => by cases h) dX0_hinderer_45
  · replace hf := ob_pos c_1 hf
    refine lv_aload_n hx hb dX0_hinderer_6 rfl (lv_at hl 0 rfl) ?_
    refine lv_aload_n hx hb dX0_hinderer_7 rfl (lv_at hl 0 rfl) ?_
    refine va_get (D := D) (ci := 0) (v := .ref a_shape) (C := RX0) (T := TX0) (N := 13) hx hb hts iw_wsX0_hinderer_X0 hown hK hP 0 rfl rfl 12 (by decide) (hts (.fieldLink RX0 34 "BargeBasin$Chart" "shape" "[J") (List.mem_of_getElem? (i := 1) (by decide +kernel))) (fun _ h9 => h9) rfl dX0_hinderer_8 ?_
    refine lv_iload_n hx hb dX0_hinderer_11 rfl (lv_at hl 1 rfl) ?_
    replace hf := ob_grd hf
    obtain ⟨hi_9, hf⟩ := hf
    refine va_lald hx hb hK hP 2 1 rfl rfl hi_9 dX0_hinderer_12 ?_
    refine lv_iload_n hx hb dX0_hinderer_13 rfl (lv_at hl 2 rfl) ?_
    refine va_getsN hx hb (C := "BargeBasin") (n := "STEP") (d := "[I") (v := .ref a_S_STEP) (hZ_STEP) hS hown (va_Nw.use (w := .fieldLinkNest RX0 102 RX6 "STEP" "[I" "BargeBasin") rfl (hN.1 _ (List.mem_of_getElem? (i := 0) (by decide +kernel)))) (fun _ h9 => h9) dX0_hinderer_14 ?_
    refine lv_iload_n hx hb dX0_hinderer_17 rfl (lv_at hl 3 rfl) ?_
    replace hf := ob_grd hf
    obtain ⟨hi_10, hf⟩ := hf
    refine va_sld hx hb hX_STEP.1 hX_STEP.2.1 hX_STEP.2.2 hS hi_10 dX0_hinderer_18 ?_
    refine lv_iadd hx hb dX0_hinderer_19 ?_
    refine lv_lshl hx hb dX0_hinderer_20 rfl ?_
    refine lv_iload_n hx hb dX0_hinderer_21 rfl (lv_at hl 1 rfl) ?_
    replace hf := ob_b hf
    obtain ⟨zr_11, hc_12, hf⟩ := hf
    refine vp_callSi (W.runV (As := [.long (jlshl (k_shape v1.toNatClampNeg) (v2 + (sv_STEP v3.toNatClampNeg))), .int v1]) (rest := []) ⟨hx, hb, hml, hown, hts⟩ (c_f_Chart_firstIn l D cT a_t a_kind a_place a_length a_gate a_across a_wide a_high a_shape k_width k_height k_barges k_walls k_taken k_place k_shape (jlshl (k_shape v1.toNatClampNeg) (v2 + (sv_STEP v3.toNatClampNeg))) v1 _ hc_12) (cwV 2 hts gX0_hinderer_X0_firstIn rfl rfl rfl (by decide +kernel) ⟨Nat.le_of_ble_eq_true rfl, Nat.le_of_ble_eq_true rfl⟩) ⟨fun a U g mk q => by obtain ⟨q0, qP, qK, qN⟩ := q; exact ⟨q0, qP, va_K.moved (u := U) (U := U.calling g mk a) (Vm.Alike.refl U.vm) qK, jNw_same (u := U) (U := U.calling g mk a) rfl qN⟩, va_recv hK hP (ci := 0) (q0 := 0) rfl rfl, fun U hU hW => ⟨rfl, by rw [hU]; exact hP.sub [0, 1, 2] rfl, va_K.moved hW.alike hK, jNw_warm hW hN⟩⟩ rfl rfl hl.1 rfl (lv_room (Nat.le_of_ble_eq_true rfl)) dX0_hinderer_22 ⟨Nat.le_of_ble_eq_true rfl, Nat.le_of_ble_eq_true rfl⟩) (fun r_11 er_13 => ?_)
    subst er_13
    cases hf
    exact W.iret hx hb hr (fun t ht hW => ⟨_, rfl, rfl, ht⟩) (fun q h => by cases h) dX0_hinderer_25
theorem iw_wsX0_stepsFrom_X0 : ∀ w ∈ wsX00, w ∈ wsX0_stepsFrom := fun _ h => List.mem_cons_of_mem _ (List.mem_append_right _ h)
abbrev rm_Chart_stepsFrom : Room := { frames := 2, cells := 0, slots := 0, locals := 56 }
set_option maxHeartbeats 4000000 in
set_option maxRecDepth 100000 in
theorem l_f_Chart_stepsFrom_L11 {p : Program} {l : Launch} {e : Env} {s : State} {m : MethodId} {args : Array Value} {below : List Frame} {meth : Method} {c : Code} {Q : State → Prop} {A : Nat → Prop} {D : va_G} {cT : Nat → ClassId} {a_t a_kind a_place a_length a_gate a_across a_wide a_high a_shape a_S_STEP a_S_STEP_X a_S_STEP_Y : Nat} {k_width : Int32} {k_height : Int32} {k_barges : Int32} {k_walls : Int64} {k_taken : Int64} {k_kind : Nat → Int32} {k_place : Nat → Int32} {k_across : Nat → Int32} {k_wide : Nat → Int32} {k_high : Nat → Int32} {k_shape : Nat → Int64} {v1 : Int32} {v2 : Int32} {v3 : Int32} (hx : p.tables.exec = Jvm.exec) (hb : c.code = cX0_stepsFrom) (hml : c.maxLocals = 6) (hown : s.vm.findClass RX0 = some m.cls) (hts : ∀ w ∈ wsX0_stepsFrom, w.before args s = true) (hK : va_K D vwCl (jT cT) s) (hN : jNw s) (hP : va_P D vwCl [(a_t, .inr (0, [.int k_width, .int k_height, .int k_barges, .long k_walls, .long k_taken, .ref a_kind, .ref a_place, .ref a_length, .ref a_gate, .ref a_across, .ref a_wide, .ref a_high, .ref a_shape])), (a_kind, .inl (cT 0, 12, .inl k_kind)), (a_place, .inl (cT 0, 12, .inl k_place)), (a_across, .inl (cT 2, 12, .inl k_across)), (a_wide, .inl (cT 0, 12, .inl k_wide)), (a_high, .inl (cT 0, 12, .inl k_high)), (a_shape, .inl (cT 1, 12, .inr (.inl k_shape)))] s.heap) (hZ_STEP : va_Z "BargeBasin" "STEP" "[I" (.ref a_S_STEP) A s s.heap) (hX_STEP : jX a_S_STEP sv_STEP A s s.heap) (hZ_STEP_X : va_Z "BargeBasin" "STEP_X" "[I" (.ref a_S_STEP_X) A s s.heap) (hX_STEP_X : jX a_S_STEP_X sv_STEP_X A s s.heap) (hZ_STEP_Y : va_Z "BargeBasin" "STEP_Y" "[I" (.ref a_S_STEP_Y) A s s.heap) (hX_STEP_Y : jX a_S_STEP_Y sv_STEP_Y A s s.heap) (hS : va_S A s.heap s.heap []) : ∀ (n : Nat) (v4 : Int32) (v5 : Int32) (ex : Int32), f_Chart_stepsFrom_L11 v1 v2 v3 k_width k_height k_walls k_taken k_kind k_place k_across k_wide k_high k_shape n v4 v5 = some ex → ∀ (ls : Array Slot), lv_has ls 6 [(0, .ref a_t), (1, .int v1), (2, .int v2), (3, .int v3), (4, .int v4), (5, .int v5)] → (∀ (v5_11 : Int32), ex = v5_11 → ∀ (ls : Array Slot), lv_has ls 6 [(5, .int v5_11)] → W p l e (headSpec wsX0_stepsFrom rm_Chart_stepsFrom).room s m args below meth c s.heap [] 0 0 Q (F0 m 46 ls [])) → W p l e (headSpec wsX0_stepsFrom rm_Chart_stepsFrom).room s m args below meth c s.heap [] 0 0 Q (F0 m 11 ls []) := by
  intro n
  induction n with
  | zero => intro v4 v5 ex hf; exact (ob_none hf).elim
  | succ n ih =>
    intro v4 v5 ex hf ls hl K0
    rw [f_Chart_stepsFrom_L11] at hf
    refine lv_iload hx hb dX0_stepsFrom_11 (lv_at hl 5 rfl) ?_
    refine lv_bipush (v := 7) hx hb dX0_stepsFrom_13 (by decide) ?_
    refine lv_icmp_ge (tgt := 46) hx hb dX0_stepsFrom_15 (by decide) (fun c_3 => ?_) (fun c_3 => ?_)
    · replace hf := ob_pos c_3 hf
      cases hf
      exact K0 _ rfl ls (lv_sub hl [5] rfl)
    · replace hf := ob_neg c_3 hf
      refine lv_aload_n hx hb dX0_stepsFrom_18 rfl (lv_at hl 0 rfl) ?_
      refine lv_iload_n hx hb dX0_stepsFrom_19 rfl (lv_at hl 1 rfl) ?_
      refine lv_iload hx hb dX0_stepsFrom_20 (lv_at hl 4 rfl) ?_
      refine lv_iload_n hx hb dX0_stepsFrom_22 rfl (lv_at hl 2 rfl) ?_
      refine lv_iload_n hx hb dX0_stepsFrom_23 rfl (lv_at hl 3 rfl) ?_
      replace hf := ob_b hf
      obtain ⟨zr_4, hc_5, hf⟩ := hf
      refine vp_callSi (W.runV (As := [.int v1, .int v4, .int v2, .int v3]) (rest := []) ⟨hx, hb, hml, hown, hts⟩ (c_f_Chart_hindrance l D cT A a_t a_kind a_place a_length a_gate a_across a_wide a_high a_shape a_S_STEP a_S_STEP_X a_S_STEP_Y k_width k_height k_barges k_walls k_taken k_kind k_place k_across k_wide k_high k_shape v1 v4 v2 v3 _ hc_5) (cwV 4 hts gX0_stepsFrom_X0_hindrance rfl rfl rfl (by decide +kernel) ⟨Nat.le_of_ble_eq_true rfl, Nat.le_of_ble_eq_true rfl⟩) ⟨fun a U g mk q => by obtain ⟨q0, qP, qK, qN, qz0, qx0, qz1, qx1, qz2, qx2⟩ := q; exact ⟨q0, qP, va_K.moved (u := U) (U := U.calling g mk a) (Vm.Alike.refl U.vm) qK, jNw_same (u := U) (U := U.calling g mk a) rfl qN, va_Z.moved (u := U) (U := U.calling g mk a) (Vm.Alike.refl U.vm) qz0, jX_moved (u := U) (U := U.calling g mk a) (Vm.Alike.refl U.vm) qx0, va_Z.moved (u := U) (U := U.calling g mk a) (Vm.Alike.refl U.vm) qz1, jX_moved (u := U) (U := U.calling g mk a) (Vm.Alike.refl U.vm) qx1, va_Z.moved (u := U) (U := U.calling g mk a) (Vm.Alike.refl U.vm) qz2, jX_moved (u := U) (U := U.calling g mk a) (Vm.Alike.refl U.vm) qx2⟩, va_recv hK hP (ci := 0) (q0 := 0) rfl rfl, fun U hU hW => ⟨rfl, by rw [hU]; exact hP.sub [0, 1, 2, 3, 4, 5, 6] rfl, va_K.moved hW.alike hK, jNw_warm hW hN, by rw [hU]; exact va_Z.moved hW.alike (jZ_at hZ_STEP hS), by rw [hU]; exact jX_moved hW.alike (jX_at hX_STEP hS), by rw [hU]; exact va_Z.moved hW.alike (jZ_at hZ_STEP_X hS), by rw [hU]; exact jX_moved hW.alike (jX_at hX_STEP_X hS), by rw [hU]; exact va_Z.moved hW.alike (jZ_at hZ_STEP_Y hS), by rw [hU]; exact jX_moved hW.alike (jX_at hX_STEP_Y hS)⟩⟩ rfl rfl hl.1 rfl (lv_room (Nat.le_of_ble_eq_true rfl)) dX0_stepsFrom_24 ⟨Nat.le_of_ble_eq_true rfl, Nat.le_of_ble_eq_true rfl⟩) (fun r_4 er_6 => ?_)
      subst er_6
      refine lv_if_ne (tgt := 46) hx hb dX0_stepsFrom_27 (by decide) (fun c_7 => ?_) (fun c_7 => ?_)
      · replace hf := ob_neg c_7 hf
        cases hf
        exact K0 _ rfl ls (lv_sub hl [5] rfl)
      · replace hf := ob_pos c_7 hf
        refine lv_iload hx hb dX0_stepsFrom_30 (lv_at hl 4 rfl) ?_
        refine va_getsN hx hb (C := "BargeBasin") (n := "STEP") (d := "[I") (v := .ref a_S_STEP) (hZ_STEP) hS hown (va_Nw.use (w := .fieldLinkNest RX0 102 RX6 "STEP" "[I" "BargeBasin") rfl (hN.1 _ (List.mem_of_getElem? (i := 0) (by decide +kernel)))) (fun _ h9 => h9) dX0_stepsFrom_32 ?_
        refine lv_iload_n hx hb dX0_stepsFrom_35 rfl (lv_at hl 2 rfl) ?_
        replace hf := ob_grd hf
        obtain ⟨hi_8, hf⟩ := hf
        refine va_sld hx hb hX_STEP.1 hX_STEP.2.1 hX_STEP.2.2 hS hi_8 dX0_stepsFrom_36 ?_
        refine lv_iadd hx hb dX0_stepsFrom_37 ?_
        refine lv_topi (fun v4_9 ev4_9 => ?_)
        replace hf := ob_nm ev4_9 hf
        refine lv_istore (lv' := [(4, .int v4_9), (0, .ref a_t), (1, .int v1), (2, .int v2), (3, .int v3), (5, .int v5)]) hx hb dX0_stepsFrom_38 hl (by decide) rfl (fun ls hl => ?_)
        obtain ⟨v5_10, ev5_10⟩ : ∃ y : Int32, y = v5 + 1 := ⟨_, rfl⟩
        replace hf := ob_nm ev5_10 hf
        refine lv_iinc (v := v5_10) (lv' := [(5, .int v5_10), (4, .int v4_9), (0, .ref a_t), (1, .int v1), (2, .int v2), (3, .int v3)]) hx hb dX0_stepsFrom_40 hl (k := 5) rfl (by rw [ev5_10]; rfl) (by decide) rfl (fun ls hl => ?_)
        refine lv_goto (tgt := 11) hx hb dX0_stepsFrom_43 (by decide) ?_
        exact ih _ _ ex hf ls (lv_sub hl [2, 3, 4, 5, 1, 0] rfl) K0
set_option maxHeartbeats 4000000 in
set_option maxRecDepth 100000 in
theorem c_f_Chart_stepsFrom (l : Launch) (D : va_G) (cT : Nat → ClassId) (A : Nat → Prop) (a_t a_kind a_place a_length a_gate a_across a_wide a_high a_shape a_S_STEP a_S_STEP_X a_S_STEP_Y : Nat) (k_width : Int32) (k_height : Int32) (k_barges : Int32) (k_walls : Int64) (k_taken : Int64) (k_kind : Nat → Int32) (k_place : Nat → Int32) (k_across : Nat → Int32) (k_wide : Nat → Int32) (k_high : Nat → Int32) (k_shape : Nat → Int64) (v1 : Int32) (v2 : Int32) (v3 : Int32) (r0 : Int32) (hf : f_Chart_stepsFrom v1 v2 v3 k_width k_height k_walls k_taken k_kind k_place k_across k_wide k_high k_shape = some r0) : Met l yX0_stepsFrom wsX0_stepsFrom rm_Chart_stepsFrom (va_Pc [.ref a_t, .int v1, .int v2, .int v3] (fun U => va_P D vwCl [(a_t, .inr (0, [.int k_width, .int k_height, .int k_barges, .long k_walls, .long k_taken, .ref a_kind, .ref a_place, .ref a_length, .ref a_gate, .ref a_across, .ref a_wide, .ref a_high, .ref a_shape])), (a_kind, .inl (cT 0, 12, .inl k_kind)), (a_place, .inl (cT 0, 12, .inl k_place)), (a_across, .inl (cT 2, 12, .inl k_across)), (a_wide, .inl (cT 0, 12, .inl k_wide)), (a_high, .inl (cT 0, 12, .inl k_high)), (a_shape, .inl (cT 1, 12, .inr (.inl k_shape)))] U.heap ∧ va_K D vwCl (jT cT) U ∧ jNw U ∧ va_Z "BargeBasin" "STEP" "[I" (.ref a_S_STEP) A U U.heap ∧ jX a_S_STEP sv_STEP A U U.heap ∧ va_Z "BargeBasin" "STEP_X" "[I" (.ref a_S_STEP_X) A U U.heap ∧ jX a_S_STEP_X sv_STEP_X A U U.heap ∧ va_Z "BargeBasin" "STEP_Y" "[I" (.ref a_S_STEP_Y) A U U.heap ∧ jX a_S_STEP_Y sv_STEP_Y A U U.heap)) (vp_Si (fun r => r = r0)) 0 0 (fun _ => False) := by
  refine Met.ofW (cc := cX0_stepsFrom) (maxL := 6) (ret := (some .int)) (by decide) rfl ?_
  intro p e s m args below meth c s₁ B hml hv
  obtain ⟨rfl, hP, hK, hN, hZ_STEP, hX_STEP, hZ_STEP_X, hX_STEP_X, hZ_STEP_Y, hX_STEP_Y⟩ := hv
  have hx := B.exec
  have hb := B.bytes
  have hr := B.returns
  have hts := atoms_spec (ws := wsX0_stepsFrom) B.pre
  have hown : s.vm.findClass RX0 = some m.cls := findClass_of_methodNamed B.named
  have hlocks := B.notSynchronized
  have hS : va_S A s.heap s.heap [] := va_S.rf
  have hl := lv_entry ([.ref a_t, .int v1, .int v2, .int v3]) (n := 6) (Nat.le_of_ble_eq_true rfl)
  rw [lg_entry_eq]
  generalize (lg_sl ([.ref a_t, .int v1, .int v2, .int v3]) ++ List.replicate (6 - (lg_sl ([.ref a_t, .int v1, .int v2, .int v3])).length) Slot.unset).toArray = ls at hl ⊢
  have hl : lv_has ls 6 [(0, .ref a_t), (1, .int v1), (2, .int v2), (3, .int v3)] := hl
  unfold f_Chart_stepsFrom at hf
  refine lv_aload_n hx hb dX0_stepsFrom_0 rfl (lv_at hl 0 rfl) ?_
  refine va_get (D := D) (ci := 0) (v := .ref a_place) (C := RX0) (T := TX0) (N := 13) hx hb hts iw_wsX0_stepsFrom_X0 hown hK hP 0 rfl rfl 6 (by decide) (hts (.fieldLink RX0 15 "BargeBasin$Chart" "place" "[I") (List.mem_of_getElem? (i := 1) (by decide +kernel))) (fun _ h9 => h9) rfl dX0_stepsFrom_1 ?_
  refine lv_iload_n hx hb dX0_stepsFrom_4 rfl (lv_at hl 1 rfl) ?_
  replace hf := ob_grd hf
  obtain ⟨hi_1, hf⟩ := hf
  refine va_iald hx hb hK hP 2 0 rfl rfl hi_1 dX0_stepsFrom_5 ?_
  refine lv_topi (fun v4_2 ev4_2 => ?_)
  replace hf := ob_nm ev4_2 hf
  refine lv_istore (lv' := [(4, .int v4_2), (0, .ref a_t), (1, .int v1), (2, .int v2), (3, .int v3)]) hx hb dX0_stepsFrom_6 hl (by decide) rfl (fun ls hl => ?_)
  refine lv_iconst (v := 0) hx hb dX0_stepsFrom_8 (by decide) ?_
  refine lv_istore (lv' := [(5, .int ((0 : Int32))), (4, .int v4_2), (0, .ref a_t), (1, .int v1), (2, .int v2), (3, .int v3)]) hx hb dX0_stepsFrom_9 hl (by decide) rfl (fun ls hl => ?_)
  replace hf := ob_b hf
  obtain ⟨ex_12, hq_13, hf⟩ := hf
  refine l_f_Chart_stepsFrom_L11 hx hb hml hown hts hK hN hP hZ_STEP hX_STEP hZ_STEP_X hX_STEP_X hZ_STEP_Y hX_STEP_Y hS jN _ _ ex_12 hq_13 ls (lv_sub hl [2, 3, 4, 5, 1, 0] rfl) (fun v5_14 ee_15 ls hl => ?_)
  have ee_15 := ee_15.symm
  subst ee_15
  refine lv_iload hx hb dX0_stepsFrom_46 (lv_at hl 0 rfl) ?_
  cases hf
  exact W.iret hx hb hr (fun t ht hW => ⟨_, rfl, rfl, ht⟩) (fun q h => by cases h) dX0_stepsFrom_48
theorem iw_wsX0_isAway_X0 : ∀ w ∈ wsX00, w ∈ wsX0_isAway := fun _ h => List.mem_cons_of_mem _ (List.mem_append_right _ h)
abbrev rm_Chart_isAway : Room := { frames := 0, cells := 0, slots := 0, locals := 0 }
set_option maxHeartbeats 4000000 in
set_option maxRecDepth 100000 in
theorem c_f_Chart_isAway (l : Launch) (D : va_G) (cT : Nat → ClassId) (a_t a_kind a_place a_length a_gate a_across a_wide a_high a_shape : Nat) (k_width : Int32) (k_height : Int32) (k_barges : Int32) (k_walls : Int64) (k_taken : Int64) (k_kind : Nat → Int32) (k_place : Nat → Int32) (k_gate : Nat → Int32) (v1 : Int32) (r0 : Int32) (hf : f_Chart_isAway v1 k_kind k_place k_gate = some r0) : Met l yX0_isAway wsX0_isAway rm_Chart_isAway (va_Pc [.ref a_t, .int v1] (fun U => va_P D vwCl [(a_t, .inr (0, [.int k_width, .int k_height, .int k_barges, .long k_walls, .long k_taken, .ref a_kind, .ref a_place, .ref a_length, .ref a_gate, .ref a_across, .ref a_wide, .ref a_high, .ref a_shape])), (a_kind, .inl (cT 0, 12, .inl k_kind)), (a_place, .inl (cT 0, 12, .inl k_place)), (a_gate, .inl (cT 0, 12, .inl k_gate))] U.heap ∧ va_K D vwCl (jT cT) U ∧ jNw U)) (vp_Si (fun r => r = r0)) 0 0 (fun _ => False) := by
  refine Met.ofW (cc := cX0_isAway) (maxL := 2) (ret := (some .boolean)) (by decide) rfl ?_
  intro p e s m args below meth c s₁ B hml hv
  obtain ⟨rfl, hP, hK, hN⟩ := hv
  have hx := B.exec
  have hb := B.bytes
  have hr := B.returns
  have hts := atoms_spec (ws := wsX0_isAway) B.pre
  have hown : s.vm.findClass RX0 = some m.cls := findClass_of_methodNamed B.named
  have hlocks := B.notSynchronized
  have hl := lv_entry ([.ref a_t, .int v1]) (n := 2) (Nat.le_of_ble_eq_true rfl)
  rw [lg_entry_eq]
  generalize (lg_sl ([.ref a_t, .int v1]) ++ List.replicate (2 - (lg_sl ([.ref a_t, .int v1])).length) Slot.unset).toArray = ls at hl ⊢
  have hl : lv_has ls 2 [(0, .ref a_t), (1, .int v1)] := hl
  unfold f_Chart_isAway at hf
  refine lv_aload_n hx hb dX0_isAway_0 rfl (lv_at hl 0 rfl) ?_
  refine va_get (D := D) (ci := 0) (v := .ref a_kind) (C := RX0) (T := TX0) (N := 13) hx hb hts iw_wsX0_isAway_X0 hown hK hP 0 rfl rfl 5 (by decide) (hts (.fieldLink RX0 9 "BargeBasin$Chart" "kind" "[I") (List.mem_of_getElem? (i := 1) (by decide +kernel))) (fun _ h9 => h9) rfl dX0_isAway_1 ?_
  refine lv_iload_n hx hb dX0_isAway_4 rfl (lv_at hl 1 rfl) ?_
  replace hf := ob_grd hf
  obtain ⟨hi_1, hf⟩ := hf
  refine va_iald hx hb hK hP 1 0 rfl rfl hi_1 dX0_isAway_5 ?_
  refine lv_iconst (v := 5) hx hb dX0_isAway_6 (by decide) ?_
  refine lv_icmp_ne (tgt := 29) hx hb dX0_isAway_7 (by decide) (fun c_2 => ?_) (fun c_2 => ?_)
  · replace hf := ob_neg c_2 hf
    refine lv_iconst (v := 0) hx hb dX0_isAway_29 (by decide) ?_
    cases hf
    exact W.zret hx hb hr (by decide +kernel) (fun t ht hW => ⟨_, rfl, rfl, ht⟩) (fun q h => by cases h) dX0_isAway_30
  · replace hf := ob_pos c_2 hf
    refine lv_aload_n hx hb dX0_isAway_10 rfl (lv_at hl 0 rfl) ?_
    refine va_get (D := D) (ci := 0) (v := .ref a_place) (C := RX0) (T := TX0) (N := 13) hx hb hts iw_wsX0_isAway_X0 hown hK hP 0 rfl rfl 6 (by decide) (hts (.fieldLink RX0 15 "BargeBasin$Chart" "place" "[I") (List.mem_of_getElem? (i := 2) (by decide +kernel))) (fun _ h9 => h9) rfl dX0_isAway_11 ?_
    refine lv_iload_n hx hb dX0_isAway_14 rfl (lv_at hl 1 rfl) ?_
    replace hf := ob_grd hf
    obtain ⟨hi_3, hf⟩ := hf
    refine va_iald hx hb hK hP 2 0 rfl rfl hi_3 dX0_isAway_15 ?_
    refine lv_aload_n hx hb dX0_isAway_16 rfl (lv_at hl 0 rfl) ?_
    refine va_get (D := D) (ci := 0) (v := .ref a_gate) (C := RX0) (T := TX0) (N := 13) hx hb hts iw_wsX0_isAway_X0 hown hK hP 0 rfl rfl 8 (by decide) (hts (.fieldLink RX0 21 "BargeBasin$Chart" "gate" "[I") (List.mem_of_getElem? (i := 3) (by decide +kernel))) (fun _ h9 => h9) rfl dX0_isAway_17 ?_
    refine lv_iload_n hx hb dX0_isAway_20 rfl (lv_at hl 1 rfl) ?_
    replace hf := ob_grd hf
    obtain ⟨hi_4, hf⟩ := hf
    refine va_iald hx hb hK hP 3 0 rfl rfl hi_4 dX0_isAway_21 ?_
    refine lv_icmp_eq (tgt := 29) hx hb dX0_isAway_22 (by decide) (fun c_5 => ?_) (fun c_5 => ?_)
    · replace hf := ob_pos c_5 hf
      refine lv_iconst (v := 0) hx hb dX0_isAway_29 (by decide) ?_
      cases hf
      exact W.zret hx hb hr (by decide +kernel) (fun t ht hW => ⟨_, rfl, rfl, ht⟩) (fun q h => by cases h) dX0_isAway_30
    · replace hf := ob_neg c_5 hf
      refine lv_iconst (v := 1) hx hb dX0_isAway_25 (by decide) ?_
      refine lv_goto (tgt := 30) hx hb dX0_isAway_26 (by decide) ?_
      cases hf
      exact W.zret hx hb hr (by decide +kernel) (fun t ht hW => ⟨_, rfl, rfl, ht⟩) (fun q h => by cases h) dX0_isAway_30
theorem iw_wsX0_isFreed_X0 : ∀ w ∈ wsX00, w ∈ wsX0_isFreed := fun _ h => List.mem_cons_of_mem _ (List.mem_append_right _ h)
abbrev rm_Chart_isFreed : Room := { frames := 1, cells := 0, slots := 0, locals := 21 }
set_option maxHeartbeats 4000000 in
set_option maxRecDepth 100000 in
theorem l_f_Chart_isFreed_L2 {p : Program} {l : Launch} {e : Env} {s : State} {m : MethodId} {args : Array Value} {below : List Frame} {meth : Method} {c : Code} {Q : State → Prop} {D : va_G} {cT : Nat → ClassId} {a_t a_kind a_place a_length a_gate a_across a_wide a_high a_shape : Nat} {k_width : Int32} {k_height : Int32} {k_barges : Int32} {k_walls : Int64} {k_taken : Int64} {k_kind : Nat → Int32} {k_place : Nat → Int32} {k_gate : Nat → Int32} (hx : p.tables.exec = Jvm.exec) (hb : c.code = cX0_isFreed) (hml : c.maxLocals = 2) (hown : s.vm.findClass RX0 = some m.cls) (hts : ∀ w ∈ wsX0_isFreed, w.before args s = true) (hK : va_K D vwCl (jT cT) s) (hN : jNw s) (hP : va_P D vwCl [(a_t, .inr (0, [.int k_width, .int k_height, .int k_barges, .long k_walls, .long k_taken, .ref a_kind, .ref a_place, .ref a_length, .ref a_gate, .ref a_across, .ref a_wide, .ref a_high, .ref a_shape])), (a_kind, .inl (cT 0, 12, .inl k_kind)), (a_place, .inl (cT 0, 12, .inl k_place)), (a_gate, .inl (cT 0, 12, .inl k_gate))] s.heap) : ∀ (n : Nat) (v1 : Int32) (ex : (Unit) ⊕ (Unit)), f_Chart_isFreed_L2 k_barges k_kind k_place k_gate n v1 = some ex → ∀ (ls : Array Slot), lv_has ls 2 [(0, .ref a_t), (1, .int v1)] → (ex = .inl (()) → ∀ (ls : Array Slot), lv_has ls 2 [] → W p l e (headSpec wsX0_isFreed rm_Chart_isFreed).room s m args below meth c s.heap [] 0 0 Q (F0 m 18 ls [])) → (ex = .inr (()) → ∀ (ls : Array Slot), lv_has ls 2 [] → W p l e (headSpec wsX0_isFreed rm_Chart_isFreed).room s m args below meth c s.heap [] 0 0 Q (F0 m 26 ls [])) → W p l e (headSpec wsX0_isFreed rm_Chart_isFreed).room s m args below meth c s.heap [] 0 0 Q (F0 m 2 ls []) := by
  intro n
  induction n with
  | zero => intro v1 ex hf; exact (ob_none hf).elim
  | succ n ih =>
    intro v1 ex hf ls hl K0 K1
    rw [f_Chart_isFreed_L2] at hf
    refine lv_iload_n hx hb dX0_isFreed_2 rfl (lv_at hl 1 rfl) ?_
    refine lv_aload_n hx hb dX0_isFreed_3 rfl (lv_at hl 0 rfl) ?_
    refine va_get (D := D) (ci := 0) (v := .int k_barges) (C := RX0) (T := TX0) (N := 13) hx hb hts iw_wsX0_isFreed_X0 hown hK hP 0 rfl rfl 2 (by decide) (hts (.fieldLink RX0 52 "BargeBasin$Chart" "barges" "I") (List.mem_of_getElem? (i := 1) (by decide +kernel))) (fun _ h9 => h9) rfl dX0_isFreed_4 ?_
    refine lv_icmp_ge (tgt := 26) hx hb dX0_isFreed_7 (by decide) (fun c_1 => ?_) (fun c_1 => ?_)
    · replace hf := ob_pos c_1 hf
      cases hf
      exact K1 rfl ls (lv_sub hl [] rfl)
    · replace hf := ob_neg c_1 hf
      refine lv_aload_n hx hb dX0_isFreed_10 rfl (lv_at hl 0 rfl) ?_
      refine lv_iload_n hx hb dX0_isFreed_11 rfl (lv_at hl 1 rfl) ?_
      replace hf := ob_b hf
      obtain ⟨zr_2, hc_3, hf⟩ := hf
      refine vp_callSi (W.runV (As := [.int v1]) (rest := []) ⟨hx, hb, hml, hown, hts⟩ (c_f_Chart_isAway l D cT a_t a_kind a_place a_length a_gate a_across a_wide a_high a_shape k_width k_height k_barges k_walls k_taken k_kind k_place k_gate v1 _ hc_3) (cwV 1 hts gX0_isFreed_X0_isAway rfl rfl rfl (by decide +kernel) ⟨Nat.le_of_ble_eq_true rfl, Nat.le_of_ble_eq_true rfl⟩) ⟨fun a U g mk q => by obtain ⟨q0, qP, qK, qN⟩ := q; exact ⟨q0, qP, va_K.moved (u := U) (U := U.calling g mk a) (Vm.Alike.refl U.vm) qK, jNw_same (u := U) (U := U.calling g mk a) rfl qN⟩, va_recv hK hP (ci := 0) (q0 := 0) rfl rfl, fun U hU hW => ⟨rfl, by rw [hU]; exact hP.sub [0, 1, 2, 3] rfl, va_K.moved hW.alike hK, jNw_warm hW hN⟩⟩ rfl rfl hl.1 rfl (lv_room (Nat.le_of_ble_eq_true rfl)) dX0_isFreed_12 ⟨Nat.le_of_ble_eq_true rfl, Nat.le_of_ble_eq_true rfl⟩) (fun r_2 er_4 => ?_)
      subst er_4
      refine lv_if_eq (tgt := 20) hx hb dX0_isFreed_15 (by decide) (fun c_5 => ?_) (fun c_5 => ?_)
      · replace hf := ob_pos c_5 hf
        obtain ⟨v1_6, ev1_6⟩ : ∃ y : Int32, y = v1 + 1 := ⟨_, rfl⟩
        replace hf := ob_nm ev1_6 hf
        refine lv_iinc (v := v1_6) (lv' := [(1, .int v1_6), (0, .ref a_t)]) hx hb dX0_isFreed_20 hl (k := 1) rfl (by rw [ev1_6]; rfl) (by decide) rfl (fun ls hl => ?_)
        refine lv_goto (tgt := 2) hx hb dX0_isFreed_23 (by decide) ?_
        exact ih _ ex hf ls (lv_sub hl [1, 0] rfl) K0 K1
      · replace hf := ob_neg c_5 hf
        cases hf
        exact K0 rfl ls (lv_sub hl [] rfl)
set_option maxHeartbeats 4000000 in
set_option maxRecDepth 100000 in
theorem c_f_Chart_isFreed (l : Launch) (D : va_G) (cT : Nat → ClassId) (a_t a_kind a_place a_length a_gate a_across a_wide a_high a_shape : Nat) (k_width : Int32) (k_height : Int32) (k_barges : Int32) (k_walls : Int64) (k_taken : Int64) (k_kind : Nat → Int32) (k_place : Nat → Int32) (k_gate : Nat → Int32) (r0 : Int32) (hf : f_Chart_isFreed k_barges k_kind k_place k_gate = some r0) : Met l yX0_isFreed wsX0_isFreed rm_Chart_isFreed (va_Pc [.ref a_t] (fun U => va_P D vwCl [(a_t, .inr (0, [.int k_width, .int k_height, .int k_barges, .long k_walls, .long k_taken, .ref a_kind, .ref a_place, .ref a_length, .ref a_gate, .ref a_across, .ref a_wide, .ref a_high, .ref a_shape])), (a_kind, .inl (cT 0, 12, .inl k_kind)), (a_place, .inl (cT 0, 12, .inl k_place)), (a_gate, .inl (cT 0, 12, .inl k_gate))] U.heap ∧ va_K D vwCl (jT cT) U ∧ jNw U)) (vp_Si (fun r => r = r0)) 0 0 (fun _ => False) := by
  refine Met.ofW (cc := cX0_isFreed) (maxL := 2) (ret := (some .boolean)) (by decide) rfl ?_
  intro p e s m args below meth c s₁ B hml hv
  obtain ⟨rfl, hP, hK, hN⟩ := hv
  have hx := B.exec
  have hb := B.bytes
  have hr := B.returns
  have hts := atoms_spec (ws := wsX0_isFreed) B.pre
  have hown : s.vm.findClass RX0 = some m.cls := findClass_of_methodNamed B.named
  have hlocks := B.notSynchronized
  have hl := lv_entry ([.ref a_t]) (n := 2) (Nat.le_of_ble_eq_true rfl)
  rw [lg_entry_eq]
  generalize (lg_sl ([.ref a_t]) ++ List.replicate (2 - (lg_sl ([.ref a_t])).length) Slot.unset).toArray = ls at hl ⊢
  have hl : lv_has ls 2 [(0, .ref a_t)] := hl
  unfold f_Chart_isFreed at hf
  refine lv_iconst (v := 0) hx hb dX0_isFreed_0 (by decide) ?_
  refine lv_istore_n (lv' := [(1, .int ((0 : Int32))), (0, .ref a_t)]) hx hb dX0_isFreed_1 rfl hl (by decide) rfl (fun ls hl => ?_)
  replace hf := ob_b hf
  obtain ⟨ex_7, hq_8, hf⟩ := hf
  refine l_f_Chart_isFreed_L2 hx hb hml hown hts hK hN hP jN _ ex_7 hq_8 ls (lv_sub hl [1, 0] rfl) (fun ee_9 ls hl => ?_) (fun ee_10 ls hl => ?_)
  · subst ee_9
    replace hf := ob_inl hf
    replace hf := ob_un0 hf
    refine lv_iconst (v := 0) hx hb dX0_isFreed_18 (by decide) ?_
    cases hf
    exact W.zret hx hb hr (by decide +kernel) (fun t ht hW => ⟨_, rfl, rfl, ht⟩) (fun q h => by cases h) dX0_isFreed_19
  · subst ee_10
    replace hf := ob_inr hf
    replace hf := ob_un0 hf
    refine lv_iconst (v := 1) hx hb dX0_isFreed_26 (by decide) ?_
    cases hf
    exact W.zret hx hb hr (by decide +kernel) (fun t ht hW => ⟨_, rfl, rfl, ht⟩) (fun q h => by cases h) dX0_isFreed_27
theorem iw_wsX0_wayOf_X0 : ∀ w ∈ wsX00, w ∈ wsX0_wayOf := fun _ h => List.mem_cons_of_mem _ (List.mem_append_right _ h)
abbrev rm_Chart_wayOf : Room := { frames := 1, cells := 0, slots := 0, locals := 21 }
set_option maxHeartbeats 4000000 in
set_option maxRecDepth 100000 in
theorem l_f_Chart_wayOf_L55 {p : Program} {l : Launch} {e : Env} {s : State} {m : MethodId} {args : Array Value} {below : List Frame} {meth : Method} {c : Code} {Q : State → Prop} {D : va_G} {cT : Nat → ClassId} {a_t a_kind a_place a_length a_gate a_across a_wide a_high a_shape : Nat} {k_width : Int32} {k_height : Int32} {k_barges : Int32} {k_walls : Int64} {k_taken : Int64} {k_place : Nat → Int32} {k_gate : Nat → Int32} {k_across : Nat → Int32} {k_shape : Nat → Int64} {v1 : Int32} {v2 : Int32} {v4 : Int32} (hx : p.tables.exec = Jvm.exec) (hb : c.code = cX0_wayOf) (hml : c.maxLocals = 8) (hown : s.vm.findClass RX0 = some m.cls) (hts : ∀ w ∈ wsX0_wayOf, w.before args s = true) (hK : va_K D vwCl (jT cT) s) (hN : jNw s) (hP : va_P D vwCl [(a_t, .inr (0, [.int k_width, .int k_height, .int k_barges, .long k_walls, .long k_taken, .ref a_kind, .ref a_place, .ref a_length, .ref a_gate, .ref a_across, .ref a_wide, .ref a_high, .ref a_shape])), (a_place, .inl (cT 0, 12, .inl k_place)), (a_gate, .inl (cT 0, 12, .inl k_gate)), (a_across, .inl (cT 2, 12, .inl k_across)), (a_shape, .inl (cT 1, 12, .inr (.inl k_shape)))] s.heap) : ∀ (n : Nat) (v5 : Int64) (v7 : Int32) (ex : Int64), f_Chart_wayOf_L55 v1 v2 v4 k_shape n v5 v7 = some ex → ∀ (ls : Array Slot), lv_has ls 8 [(0, .ref a_t), (1, .int v1), (2, .int v2), (4, .int v4), (5, .long v5), (7, .int v7)] → (∀ (v5_13 : Int64), ex = v5_13 → ∀ (ls : Array Slot), lv_has ls 8 [(5, .long v5_13)] → W p l e (headSpec wsX0_wayOf rm_Chart_wayOf).room s m args below meth c s.heap [] 0 0 Q (F0 m 85 ls [])) → W p l e (headSpec wsX0_wayOf rm_Chart_wayOf).room s m args below meth c s.heap [] 0 0 Q (F0 m 55 ls []) := by
  intro n
  induction n with
  | zero => intro v5 v7 ex hf; exact (ob_none hf).elim
  | succ n ih =>
    intro v5 v7 ex hf ls hl K0
    rw [f_Chart_wayOf_L55] at hf
    refine lv_iload hx hb dX0_wayOf_55 (lv_at hl 5 rfl) ?_
    refine lv_iload hx hb dX0_wayOf_57 (lv_at hl 3 rfl) ?_
    refine lv_icmp_gt (tgt := 85) hx hb dX0_wayOf_59 (by decide) (fun c_9 => ?_) (fun c_9 => ?_)
    · replace hf := ob_pos c_9 hf
      cases hf
      exact K0 _ rfl ls (lv_sub hl [4] rfl)
    · replace hf := ob_neg c_9 hf
      refine lv_lload hx hb dX0_wayOf_62 (lv_at hl 4 rfl) ?_
      refine lv_aload_n hx hb dX0_wayOf_64 rfl (lv_at hl 0 rfl) ?_
      refine va_get (D := D) (ci := 0) (v := .ref a_shape) (C := RX0) (T := TX0) (N := 13) hx hb hts iw_wsX0_wayOf_X0 hown hK hP 0 rfl rfl 12 (by decide) (hts (.fieldLink RX0 34 "BargeBasin$Chart" "shape" "[J") (List.mem_of_getElem? (i := 11) (by decide +kernel))) (fun _ h9 => h9) rfl dX0_wayOf_65 ?_
      refine lv_iload_n hx hb dX0_wayOf_68 rfl (lv_at hl 1 rfl) ?_
      replace hf := ob_grd hf
      obtain ⟨hi_10, hf⟩ := hf
      refine va_lald hx hb hK hP 4 1 rfl rfl hi_10 dX0_wayOf_69 ?_
      refine lv_iload hx hb dX0_wayOf_70 (lv_at hl 5 rfl) ?_
      refine lv_lshl hx hb dX0_wayOf_72 rfl ?_
      refine lv_lor hx hb dX0_wayOf_73 ?_
      refine lv_topl (fun v5_11 ev5_11 => ?_)
      replace hf := ob_nm ev5_11 hf
      refine lv_lstore (lv' := [(5, .long v5_11), (0, .ref a_t), (1, .int v1), (2, .int v2), (4, .int v4), (7, .int v7)]) hx hb dX0_wayOf_74 hl (by decide) rfl (fun ls hl => ?_)
      refine lv_iload hx hb dX0_wayOf_76 (lv_at hl 5 rfl) ?_
      refine lv_iload_n hx hb dX0_wayOf_78 rfl (lv_at hl 3 rfl) ?_
      refine lv_iadd hx hb dX0_wayOf_79 ?_
      refine lv_topi (fun v7_12 ev7_12 => ?_)
      replace hf := ob_nm ev7_12 hf
      refine lv_istore (lv' := [(7, .int v7_12), (5, .long v5_11), (0, .ref a_t), (1, .int v1), (2, .int v2), (4, .int v4)]) hx hb dX0_wayOf_80 hl (by decide) rfl (fun ls hl => ?_)
      refine lv_goto (tgt := 55) hx hb dX0_wayOf_82 (by decide) ?_
      exact ih _ _ ex hf ls (lv_sub hl [2, 3, 4, 5, 1, 0] rfl) K0
set_option maxHeartbeats 4000000 in
set_option maxRecDepth 100000 in
theorem c_f_Chart_wayOf (l : Launch) (D : va_G) (cT : Nat → ClassId) (a_t a_kind a_place a_length a_gate a_across a_wide a_high a_shape : Nat) (k_width : Int32) (k_height : Int32) (k_barges : Int32) (k_walls : Int64) (k_taken : Int64) (k_place : Nat → Int32) (k_gate : Nat → Int32) (k_across : Nat → Int32) (k_shape : Nat → Int64) (v1 : Int32) (r0 : Int64) (hf : f_Chart_wayOf v1 k_place k_gate k_across k_shape = some r0) : Met l yX0_wayOf wsX0_wayOf rm_Chart_wayOf (va_Pc [.ref a_t, .int v1] (fun U => va_P D vwCl [(a_t, .inr (0, [.int k_width, .int k_height, .int k_barges, .long k_walls, .long k_taken, .ref a_kind, .ref a_place, .ref a_length, .ref a_gate, .ref a_across, .ref a_wide, .ref a_high, .ref a_shape])), (a_place, .inl (cT 0, 12, .inl k_place)), (a_gate, .inl (cT 0, 12, .inl k_gate)), (a_across, .inl (cT 2, 12, .inl k_across)), (a_shape, .inl (cT 1, 12, .inr (.inl k_shape)))] U.heap ∧ va_K D vwCl (jT cT) U ∧ jNw U)) (vp_Sl (fun r => r = r0)) 0 0 (fun _ => False) := by
  refine Met.ofW (cc := cX0_wayOf) (maxL := 8) (ret := (some .long)) (by decide) rfl ?_
  intro p e s m args below meth c s₁ B hml hv
  obtain ⟨rfl, hP, hK, hN⟩ := hv
  have hx := B.exec
  have hb := B.bytes
  have hr := B.returns
  have hts := atoms_spec (ws := wsX0_wayOf) B.pre
  have hown : s.vm.findClass RX0 = some m.cls := findClass_of_methodNamed B.named
  have hlocks := B.notSynchronized
  have hl := lv_entry ([.ref a_t, .int v1]) (n := 8) (Nat.le_of_ble_eq_true rfl)
  rw [lg_entry_eq]
  generalize (lg_sl ([.ref a_t, .int v1]) ++ List.replicate (8 - (lg_sl ([.ref a_t, .int v1])).length) Slot.unset).toArray = ls at hl ⊢
  have hl : lv_has ls 8 [(0, .ref a_t), (1, .int v1)] := hl
  refine j_nameQ (fun Q hQ => ?_)
  have J15 : ∀ (s0 : Int32), f_Chart_wayOf_J15 v1 s0 k_place k_gate k_shape = some r0 → ∀ (ls : Array Slot), lv_has ls 8 [(0, .ref a_t), (1, .int v1)] → W p l e (headSpec wsX0_wayOf rm_Chart_wayOf).room s m ([.ref a_t, .int v1] : List Value).toArray below meth c s.heap [] 0 0 Q (F0 m 15 ls [.int s0]) := by
    intro s0 hf ls hl
    unfold f_Chart_wayOf_J15 at hf
    refine lv_istore_n (lv' := [(2, .int s0), (0, .ref a_t), (1, .int v1)]) hx hb dX0_wayOf_15 rfl hl (by decide) rfl (fun ls hl => ?_)
    refine lv_aload_n hx hb dX0_wayOf_16 rfl (lv_at hl 1 rfl) ?_
    refine va_get (D := D) (ci := 0) (v := .ref a_place) (C := RX0) (T := TX0) (N := 13) hx hb hts iw_wsX0_wayOf_X0 hown hK hP 0 rfl rfl 6 (by decide) (hts (.fieldLink RX0 15 "BargeBasin$Chart" "place" "[I") (List.mem_of_getElem? (i := 2) (by decide +kernel))) (fun _ h9 => h9) rfl dX0_wayOf_17 ?_
    refine lv_iload_n hx hb dX0_wayOf_20 rfl (lv_at hl 2 rfl) ?_
    replace hf := ob_grd hf
    obtain ⟨hi_3, hf⟩ := hf
    refine va_iald hx hb hK hP 1 0 rfl rfl hi_3 dX0_wayOf_21 ?_
    refine lv_aload_n hx hb dX0_wayOf_22 rfl (lv_at hl 1 rfl) ?_
    refine va_get (D := D) (ci := 0) (v := .ref a_gate) (C := RX0) (T := TX0) (N := 13) hx hb hts iw_wsX0_wayOf_X0 hown hK hP 0 rfl rfl 8 (by decide) (hts (.fieldLink RX0 21 "BargeBasin$Chart" "gate" "[I") (List.mem_of_getElem? (i := 3) (by decide +kernel))) (fun _ h9 => h9) rfl dX0_wayOf_23 ?_
    refine lv_iload_n hx hb dX0_wayOf_26 rfl (lv_at hl 2 rfl) ?_
    replace hf := ob_grd hf
    obtain ⟨hi_4, hf⟩ := hf
    refine va_iald hx hb hK hP 2 0 rfl rfl hi_4 dX0_wayOf_27 ?_
    refine va_mmin hx hb (by rw [hml]; exact hl.1.symm) hown (hts (.methodLink RX0 128 Lib.Math.min.name) (List.mem_of_getElem? (i := 4) (by decide +kernel))) (hts (.static Lib.Math.min.name) (List.mem_of_getElem? (i := 5) (by decide +kernel))) (hts (.initialized "java/lang/Math") (List.mem_of_getElem? (i := 6) (by decide +kernel))) (hts (.code Lib.Math.min.name Lib.Math.min.code 2 (some .int)) (List.mem_of_getElem? (i := 7) (by decide +kernel))) (Nat.le_of_ble_eq_true rfl) (Nat.le_of_ble_eq_true rfl) (Nat.le_of_ble_eq_true rfl) (Nat.le_of_ble_eq_true rfl) dX0_wayOf_28 ?_
    refine lv_topi (fun v3_5 ev3_5 => ?_)
    replace hf := ob_nm ev3_5 hf
    refine lv_istore_n (lv' := [(3, .int v3_5), (2, .int s0), (0, .ref a_t), (1, .int v1)]) hx hb dX0_wayOf_31 rfl hl (by decide) rfl (fun ls hl => ?_)
    refine lv_aload_n hx hb dX0_wayOf_32 rfl (lv_at hl 2 rfl) ?_
    refine va_get (D := D) (ci := 0) (v := .ref a_place) (C := RX0) (T := TX0) (N := 13) hx hb hts iw_wsX0_wayOf_X0 hown hK hP 0 rfl rfl 6 (by decide) (hts (.fieldLink RX0 15 "BargeBasin$Chart" "place" "[I") (List.mem_of_getElem? (i := 2) (by decide +kernel))) (fun _ h9 => h9) rfl dX0_wayOf_33 ?_
    refine lv_iload_n hx hb dX0_wayOf_36 rfl (lv_at hl 3 rfl) ?_
    replace hf := ob_grd hf
    obtain ⟨hi_6, hf⟩ := hf
    refine va_iald hx hb hK hP 1 0 rfl rfl hi_6 dX0_wayOf_37 ?_
    refine lv_aload_n hx hb dX0_wayOf_38 rfl (lv_at hl 2 rfl) ?_
    refine va_get (D := D) (ci := 0) (v := .ref a_gate) (C := RX0) (T := TX0) (N := 13) hx hb hts iw_wsX0_wayOf_X0 hown hK hP 0 rfl rfl 8 (by decide) (hts (.fieldLink RX0 21 "BargeBasin$Chart" "gate" "[I") (List.mem_of_getElem? (i := 3) (by decide +kernel))) (fun _ h9 => h9) rfl dX0_wayOf_39 ?_
    refine lv_iload_n hx hb dX0_wayOf_42 rfl (lv_at hl 3 rfl) ?_
    replace hf := ob_grd hf
    obtain ⟨hi_7, hf⟩ := hf
    refine va_iald hx hb hK hP 2 0 rfl rfl hi_7 dX0_wayOf_43 ?_
    refine va_mmax hx hb (by rw [hml]; exact hl.1.symm) hown (hts (.methodLink RX0 133 Lib.Math.max.name) (List.mem_of_getElem? (i := 8) (by decide +kernel))) (hts (.static Lib.Math.max.name) (List.mem_of_getElem? (i := 9) (by decide +kernel))) (hts (.initialized "java/lang/Math") (List.mem_of_getElem? (i := 6) (by decide +kernel))) (hts (.code Lib.Math.max.name Lib.Math.max.code 2 (some .int)) (List.mem_of_getElem? (i := 10) (by decide +kernel))) (Nat.le_of_ble_eq_true rfl) (Nat.le_of_ble_eq_true rfl) (Nat.le_of_ble_eq_true rfl) (Nat.le_of_ble_eq_true rfl) dX0_wayOf_44 ?_
    refine lv_topi (fun v4_8 ev4_8 => ?_)
    replace hf := ob_nm ev4_8 hf
    refine lv_istore (lv' := [(4, .int v4_8), (3, .int v3_5), (2, .int s0), (0, .ref a_t), (1, .int v1)]) hx hb dX0_wayOf_47 hl (by decide) rfl (fun ls hl => ?_)
    refine lv_lconst (v := 0) hx hb dX0_wayOf_49 (by decide) ?_
    refine lv_lstore (lv' := [(5, .long ((0 : Int64))), (4, .int v4_8), (3, .int v3_5), (2, .int s0), (0, .ref a_t), (1, .int v1)]) hx hb dX0_wayOf_50 hl (by decide) rfl (fun ls hl => ?_)
    refine lv_iload_n hx hb dX0_wayOf_52 rfl (lv_at hl 2 rfl) ?_
    refine lv_istore (lv' := [(7, .int v3_5), (5, .long ((0 : Int64))), (4, .int v4_8), (3, .int v3_5), (2, .int s0), (0, .ref a_t), (1, .int v1)]) hx hb dX0_wayOf_53 hl (by decide) rfl (fun ls hl => ?_)
    replace hf := ob_b hf
    obtain ⟨ex_14, hq_15, hf⟩ := hf
    refine l_f_Chart_wayOf_L55 hx hb hml hown hts hK hN hP jN _ _ ex_14 hq_15 ls (lv_sub hl [5, 6, 4, 2, 1, 0] rfl) (fun v5_16 ee_17 ls hl => ?_)
    have ee_17 := ee_17.symm
    subst ee_17
    refine lv_lload hx hb dX0_wayOf_85 (lv_at hl 0 rfl) ?_
    cases hf
    subst hQ
    exact W.lret hx hb hr (fun t ht hW => ⟨_, rfl, rfl, ht⟩) (fun q h => by cases h) dX0_wayOf_87
  unfold f_Chart_wayOf at hf
  refine lv_aload_n hx hb dX0_wayOf_0 rfl (lv_at hl 0 rfl) ?_
  refine va_get (D := D) (ci := 0) (v := .ref a_across) (C := RX0) (T := TX0) (N := 13) hx hb hts iw_wsX0_wayOf_X0 hown hK hP 0 rfl rfl 9 (by decide) (hts (.fieldLink RX0 24 "BargeBasin$Chart" "across" "[Z") (List.mem_of_getElem? (i := 1) (by decide +kernel))) (fun _ h9 => h9) rfl dX0_wayOf_1 ?_
  refine lv_iload_n hx hb dX0_wayOf_4 rfl (lv_at hl 1 rfl) ?_
  replace hf := ob_grd hf
  obtain ⟨hi_1, hf⟩ := hf
  refine va_zald hx hb hK hP 3 2 rfl rfl hi_1 dX0_wayOf_5 ?_
  refine lv_if_eq (tgt := 14) hx hb dX0_wayOf_6 (by decide) (fun c_2 => ?_) (fun c_2 => ?_)
  · replace hf := ob_pos c_2 hf
    refine lv_iconst (v := 1) hx hb dX0_wayOf_14 (by decide) ?_
    exact J15 _ hf ls (lv_sub hl [0, 1] rfl)
  · replace hf := ob_neg c_2 hf
    refine lv_bipush (v := 8) hx hb dX0_wayOf_9 (by decide) ?_
    refine lv_goto (tgt := 15) hx hb dX0_wayOf_11 (by decide) ?_
    exact J15 _ hf ls (lv_sub hl [0, 1] rfl)
theorem iw_wsX0_countLow_X0 : ∀ w ∈ wsX00, w ∈ wsX0_countLow := fun _ h => List.mem_cons_of_mem _ (List.mem_append_right _ h)
abbrev rm_Chart_countLow : Room := { frames := 2, cells := 0, slots := 0, locals := 48 }
set_option maxHeartbeats 4000000 in
set_option maxRecDepth 100000 in
theorem l_f_Chart_countLow_L4 {p : Program} {l : Launch} {e : Env} {s : State} {m : MethodId} {args : Array Value} {below : List Frame} {meth : Method} {c : Code} {Q : State → Prop} {D : va_G} {cT : Nat → ClassId} {a_t a_kind a_place a_length a_gate a_across a_wide a_high a_shape : Nat} {k_width : Int32} {k_height : Int32} {k_barges : Int32} {k_walls : Int64} {k_taken : Int64} {k_kind : Nat → Int32} {k_place : Nat → Int32} {k_gate : Nat → Int32} {k_across : Nat → Int32} {k_shape : Nat → Int64} (hx : p.tables.exec = Jvm.exec) (hb : c.code = cX0_countLow) (hml : c.maxLocals = 5) (hown : s.vm.findClass RX0 = some m.cls) (hts : ∀ w ∈ wsX0_countLow, w.before args s = true) (hK : va_K D vwCl (jT cT) s) (hN : jNw s) (hP : va_P D vwCl [(a_t, .inr (0, [.int k_width, .int k_height, .int k_barges, .long k_walls, .long k_taken, .ref a_kind, .ref a_place, .ref a_length, .ref a_gate, .ref a_across, .ref a_wide, .ref a_high, .ref a_shape])), (a_kind, .inl (cT 0, 12, .inl k_kind)), (a_place, .inl (cT 0, 12, .inl k_place)), (a_gate, .inl (cT 0, 12, .inl k_gate)), (a_across, .inl (cT 2, 12, .inl k_across)), (a_shape, .inl (cT 1, 12, .inr (.inl k_shape)))] s.heap) : ∀ (n : Nat) (v1 : Int64) (v3 : Int32) (ex : Int64), f_Chart_countLow_L4 k_barges k_kind k_place k_gate k_across k_shape n v1 v3 = some ex → ∀ (ls : Array Slot), lv_has ls 5 [(0, .ref a_t), (1, .long v1), (3, .int v3)] → (∀ (v1_12 : Int64), ex = v1_12 → ∀ (ls : Array Slot), lv_has ls 5 [(0, .ref a_t), (1, .long v1_12)] → W p l e (headSpec wsX0_countLow rm_Chart_countLow).room s m args below meth c s.heap [] 0 0 Q (F0 m 34 ls [])) → W p l e (headSpec wsX0_countLow rm_Chart_countLow).room s m args below meth c s.heap [] 0 0 Q (F0 m 4 ls []) := by
  intro n
  induction n with
  | zero => intro v1 v3 ex hf; exact (ob_none hf).elim
  | succ n ih =>
    intro v1 v3 ex hf ls hl K0
    rw [f_Chart_countLow_L4] at hf
    refine lv_iload_n hx hb dX0_countLow_4 rfl (lv_at hl 2 rfl) ?_
    refine lv_aload_n hx hb dX0_countLow_5 rfl (lv_at hl 0 rfl) ?_
    refine va_get (D := D) (ci := 0) (v := .int k_barges) (C := RX0) (T := TX0) (N := 13) hx hb hts iw_wsX0_countLow_X0 hown hK hP 0 rfl rfl 2 (by decide) (hts (.fieldLink RX0 52 "BargeBasin$Chart" "barges" "I") (List.mem_of_getElem? (i := 1) (by decide +kernel))) (fun _ h9 => h9) rfl dX0_countLow_6 ?_
    refine lv_icmp_ge (tgt := 34) hx hb dX0_countLow_9 (by decide) (fun c_1 => ?_) (fun c_1 => ?_)
    · replace hf := ob_pos c_1 hf
      cases hf
      exact K0 _ rfl ls (lv_sub hl [0, 1] rfl)
    · replace hf := ob_neg c_1 hf
      refine lv_aload_n hx hb dX0_countLow_12 rfl (lv_at hl 0 rfl) ?_
      refine lv_iload_n hx hb dX0_countLow_13 rfl (lv_at hl 2 rfl) ?_
      replace hf := ob_b hf
      obtain ⟨zr_2, hc_3, hf⟩ := hf
      refine vp_callSi (W.runV (As := [.int v3]) (rest := []) ⟨hx, hb, hml, hown, hts⟩ (c_f_Chart_isAway l D cT a_t a_kind a_place a_length a_gate a_across a_wide a_high a_shape k_width k_height k_barges k_walls k_taken k_kind k_place k_gate v3 _ hc_3) (cwV 1 hts gX0_countLow_X0_isAway rfl rfl rfl (by decide +kernel) ⟨Nat.le_of_ble_eq_true rfl, Nat.le_of_ble_eq_true rfl⟩) ⟨fun a U g mk q => by obtain ⟨q0, qP, qK, qN⟩ := q; exact ⟨q0, qP, va_K.moved (u := U) (U := U.calling g mk a) (Vm.Alike.refl U.vm) qK, jNw_same (u := U) (U := U.calling g mk a) rfl qN⟩, va_recv hK hP (ci := 0) (q0 := 0) rfl rfl, fun U hU hW => ⟨rfl, by rw [hU]; exact hP.sub [0, 1, 2, 3] rfl, va_K.moved hW.alike hK, jNw_warm hW hN⟩⟩ rfl rfl hl.1 rfl (lv_room (Nat.le_of_ble_eq_true rfl)) dX0_countLow_14 ⟨Nat.le_of_ble_eq_true rfl, Nat.le_of_ble_eq_true rfl⟩) (fun r_2 er_4 => ?_)
      subst er_4
      refine lv_if_eq (tgt := 28) hx hb dX0_countLow_17 (by decide) (fun c_5 => ?_) (fun c_5 => ?_)
      · replace hf := ob_pos c_5 hf
        obtain ⟨v3_6, ev3_6⟩ : ∃ y : Int32, y = v3 + 1 := ⟨_, rfl⟩
        replace hf := ob_nm ev3_6 hf
        refine lv_iinc (v := v3_6) (lv' := [(3, .int v3_6), (0, .ref a_t), (1, .long v1)]) hx hb dX0_countLow_28 hl (k := 2) rfl (by rw [ev3_6]; rfl) (by decide) rfl (fun ls hl => ?_)
        refine lv_goto (tgt := 4) hx hb dX0_countLow_31 (by decide) ?_
        exact ih _ _ ex hf ls (lv_sub hl [1, 2, 0] rfl) K0
      · replace hf := ob_neg c_5 hf
        refine lv_lload_n hx hb dX0_countLow_20 rfl (lv_at hl 1 rfl) ?_
        refine lv_aload_n hx hb dX0_countLow_21 rfl (lv_at hl 0 rfl) ?_
        refine lv_iload_n hx hb dX0_countLow_22 rfl (lv_at hl 2 rfl) ?_
        replace hf := ob_b hf
        obtain ⟨zr_7, hc_8, hf⟩ := hf
        refine vp_callSl (W.runV (As := [.int v3]) (rest := [.long v1]) ⟨hx, hb, hml, hown, hts⟩ (c_f_Chart_wayOf l D cT a_t a_kind a_place a_length a_gate a_across a_wide a_high a_shape k_width k_height k_barges k_walls k_taken k_place k_gate k_across k_shape v3 _ hc_8) (cwV 1 hts gX0_countLow_X0_wayOf rfl rfl rfl (by decide +kernel) ⟨Nat.le_of_ble_eq_true rfl, Nat.le_of_ble_eq_true rfl⟩) ⟨fun a U g mk q => by obtain ⟨q0, qP, qK, qN⟩ := q; exact ⟨q0, qP, va_K.moved (u := U) (U := U.calling g mk a) (Vm.Alike.refl U.vm) qK, jNw_same (u := U) (U := U.calling g mk a) rfl qN⟩, va_recv hK hP (ci := 0) (q0 := 0) rfl rfl, fun U hU hW => ⟨rfl, by rw [hU]; exact hP.sub [0, 2, 3, 4, 5] rfl, va_K.moved hW.alike hK, jNw_warm hW hN⟩⟩ rfl rfl hl.1 rfl (lv_room (Nat.le_of_ble_eq_true rfl)) dX0_countLow_23 ⟨Nat.le_of_ble_eq_true rfl, Nat.le_of_ble_eq_true rfl⟩) (fun r_7 er_9 => ?_)
        subst er_9
        refine lv_lor hx hb dX0_countLow_26 ?_
        refine lv_topl (fun v1_10 ev1_10 => ?_)
        replace hf := ob_nm ev1_10 hf
        refine lv_lstore_n (lv' := [(1, .long v1_10), (0, .ref a_t), (3, .int v3)]) hx hb dX0_countLow_27 rfl hl (by decide) rfl (fun ls hl => ?_)
        obtain ⟨v3_11, ev3_11⟩ : ∃ y : Int32, y = v3 + 1 := ⟨_, rfl⟩
        replace hf := ob_nm ev3_11 hf
        refine lv_iinc (v := v3_11) (lv' := [(3, .int v3_11), (1, .long v1_10), (0, .ref a_t)]) hx hb dX0_countLow_28 hl (k := 2) rfl (by rw [ev3_11]; rfl) (by decide) rfl (fun ls hl => ?_)
        refine lv_goto (tgt := 4) hx hb dX0_countLow_31 (by decide) ?_
        exact ih _ _ ex hf ls (lv_sub hl [2, 1, 0] rfl) K0
set_option maxHeartbeats 4000000 in
set_option maxRecDepth 100000 in
theorem l_f_Chart_countLow_L39 {p : Program} {l : Launch} {e : Env} {s : State} {m : MethodId} {args : Array Value} {below : List Frame} {meth : Method} {c : Code} {Q : State → Prop} {D : va_G} {cT : Nat → ClassId} {a_t a_kind a_place a_length a_gate a_across a_wide a_high a_shape : Nat} {k_width : Int32} {k_height : Int32} {k_barges : Int32} {k_walls : Int64} {k_taken : Int64} {k_kind : Nat → Int32} {k_place : Nat → Int32} {k_gate : Nat → Int32} {k_across : Nat → Int32} {k_shape : Nat → Int64} {v1 : Int64} (hx : p.tables.exec = Jvm.exec) (hb : c.code = cX0_countLow) (hml : c.maxLocals = 5) (hown : s.vm.findClass RX0 = some m.cls) (hts : ∀ w ∈ wsX0_countLow, w.before args s = true) (hK : va_K D vwCl (jT cT) s) (hN : jNw s) (hP : va_P D vwCl [(a_t, .inr (0, [.int k_width, .int k_height, .int k_barges, .long k_walls, .long k_taken, .ref a_kind, .ref a_place, .ref a_length, .ref a_gate, .ref a_across, .ref a_wide, .ref a_high, .ref a_shape])), (a_kind, .inl (cT 0, 12, .inl k_kind)), (a_place, .inl (cT 0, 12, .inl k_place)), (a_gate, .inl (cT 0, 12, .inl k_gate)), (a_across, .inl (cT 2, 12, .inl k_across)), (a_shape, .inl (cT 1, 12, .inr (.inl k_shape)))] s.heap) : ∀ (n : Nat) (v3 : Int32) (v4 : Int32) (ex : Int32), f_Chart_countLow_L39 v1 k_barges k_place k_shape n v3 v4 = some ex → ∀ (ls : Array Slot), lv_has ls 5 [(0, .ref a_t), (1, .long v1), (3, .int v3), (4, .int v4)] → (∀ (v3_24 : Int32), ex = v3_24 → ∀ (ls : Array Slot), lv_has ls 5 [(3, .int v3_24)] → W p l e (headSpec wsX0_countLow rm_Chart_countLow).room s m args below meth c s.heap [] 0 0 Q (F0 m 70 ls [])) → W p l e (headSpec wsX0_countLow rm_Chart_countLow).room s m args below meth c s.heap [] 0 0 Q (F0 m 39 ls []) := by
  intro n
  induction n with
  | zero => intro v3 v4 ex hf; exact (ob_none hf).elim
  | succ n ih =>
    intro v3 v4 ex hf ls hl K0
    rw [f_Chart_countLow_L39] at hf
    refine lv_iload hx hb dX0_countLow_39 (lv_at hl 3 rfl) ?_
    refine lv_aload_n hx hb dX0_countLow_41 rfl (lv_at hl 0 rfl) ?_
    refine va_get (D := D) (ci := 0) (v := .int k_barges) (C := RX0) (T := TX0) (N := 13) hx hb hts iw_wsX0_countLow_X0 hown hK hP 0 rfl rfl 2 (by decide) (hts (.fieldLink RX0 52 "BargeBasin$Chart" "barges" "I") (List.mem_of_getElem? (i := 1) (by decide +kernel))) (fun _ h9 => h9) rfl dX0_countLow_42 ?_
    refine lv_icmp_ge (tgt := 70) hx hb dX0_countLow_45 (by decide) (fun c_16 => ?_) (fun c_16 => ?_)
    · replace hf := ob_pos c_16 hf
      cases hf
      exact K0 _ rfl ls (lv_sub hl [2] rfl)
    · replace hf := ob_neg c_16 hf
      refine lv_aload_n hx hb dX0_countLow_48 rfl (lv_at hl 0 rfl) ?_
      refine lv_iload hx hb dX0_countLow_49 (lv_at hl 3 rfl) ?_
      replace hf := ob_b hf
      obtain ⟨zr_17, hc_18, hf⟩ := hf
      refine vp_callSl (W.runV (As := [.int v4]) (rest := []) ⟨hx, hb, hml, hown, hts⟩ (c_f_Chart_fieldsOf l D cT a_t a_kind a_place a_length a_gate a_across a_wide a_high a_shape k_width k_height k_barges k_walls k_taken k_place k_shape v4 _ hc_18) (cwV 1 hts gX0_countLow_X0_fieldsOf rfl rfl rfl (by decide +kernel) ⟨Nat.le_of_ble_eq_true rfl, Nat.le_of_ble_eq_true rfl⟩) ⟨fun a U g mk q => by obtain ⟨q0, qP, qK, qN⟩ := q; exact ⟨q0, qP, va_K.moved (u := U) (U := U.calling g mk a) (Vm.Alike.refl U.vm) qK, jNw_same (u := U) (U := U.calling g mk a) rfl qN⟩, va_recv hK hP (ci := 0) (q0 := 0) rfl rfl, fun U hU hW => ⟨rfl, by rw [hU]; exact hP.sub [0, 2, 5] rfl, va_K.moved hW.alike hK, jNw_warm hW hN⟩⟩ rfl rfl hl.1 rfl (lv_room (Nat.le_of_ble_eq_true rfl)) dX0_countLow_51 ⟨Nat.le_of_ble_eq_true rfl, Nat.le_of_ble_eq_true rfl⟩) (fun r_17 er_19 => ?_)
      subst er_19
      refine lv_lload_n hx hb dX0_countLow_54 rfl (lv_at hl 1 rfl) ?_
      refine lv_land hx hb dX0_countLow_55 ?_
      refine lv_lconst (v := 0) hx hb dX0_countLow_56 (by decide) ?_
      refine W.lcmp hx hb dX0_countLow_57 ?_
      refine lv_if_eq (tgt := 64) hx hb dX0_countLow_58 (by decide) (fun c_20 => ?_) (fun c_20 => ?_)
      · replace hf := ob_pos c_20 hf
        obtain ⟨v4_21, ev4_21⟩ : ∃ y : Int32, y = v4 + 1 := ⟨_, rfl⟩
        replace hf := ob_nm ev4_21 hf
        refine lv_iinc (v := v4_21) (lv' := [(4, .int v4_21), (0, .ref a_t), (1, .long v1), (3, .int v3)]) hx hb dX0_countLow_64 hl (k := 3) rfl (by rw [ev4_21]; rfl) (by decide) rfl (fun ls hl => ?_)
        refine lv_goto (tgt := 39) hx hb dX0_countLow_67 (by decide) ?_
        exact ih _ _ ex hf ls (lv_sub hl [1, 2, 3, 0] rfl) K0
      · replace hf := ob_neg c_20 hf
        obtain ⟨v3_22, ev3_22⟩ : ∃ y : Int32, y = v3 + 1 := ⟨_, rfl⟩
        replace hf := ob_nm ev3_22 hf
        refine lv_iinc (v := v3_22) (lv' := [(3, .int v3_22), (0, .ref a_t), (1, .long v1), (4, .int v4)]) hx hb dX0_countLow_61 hl (k := 2) rfl (by rw [ev3_22]; rfl) (by decide) rfl (fun ls hl => ?_)
        obtain ⟨v4_23, ev4_23⟩ : ∃ y : Int32, y = v4 + 1 := ⟨_, rfl⟩
        replace hf := ob_nm ev4_23 hf
        refine lv_iinc (v := v4_23) (lv' := [(4, .int v4_23), (3, .int v3_22), (0, .ref a_t), (1, .long v1)]) hx hb dX0_countLow_64 hl (k := 3) rfl (by rw [ev4_23]; rfl) (by decide) rfl (fun ls hl => ?_)
        refine lv_goto (tgt := 39) hx hb dX0_countLow_67 (by decide) ?_
        exact ih _ _ ex hf ls (lv_sub hl [2, 3, 1, 0] rfl) K0
set_option maxHeartbeats 4000000 in
set_option maxRecDepth 100000 in
theorem c_f_Chart_countLow (l : Launch) (D : va_G) (cT : Nat → ClassId) (a_t a_kind a_place a_length a_gate a_across a_wide a_high a_shape : Nat) (k_width : Int32) (k_height : Int32) (k_barges : Int32) (k_walls : Int64) (k_taken : Int64) (k_kind : Nat → Int32) (k_place : Nat → Int32) (k_gate : Nat → Int32) (k_across : Nat → Int32) (k_shape : Nat → Int64) (r0 : Int32) (hf : f_Chart_countLow k_barges k_kind k_place k_gate k_across k_shape = some r0) : Met l yX0_countLow wsX0_countLow rm_Chart_countLow (va_Pc [.ref a_t] (fun U => va_P D vwCl [(a_t, .inr (0, [.int k_width, .int k_height, .int k_barges, .long k_walls, .long k_taken, .ref a_kind, .ref a_place, .ref a_length, .ref a_gate, .ref a_across, .ref a_wide, .ref a_high, .ref a_shape])), (a_kind, .inl (cT 0, 12, .inl k_kind)), (a_place, .inl (cT 0, 12, .inl k_place)), (a_gate, .inl (cT 0, 12, .inl k_gate)), (a_across, .inl (cT 2, 12, .inl k_across)), (a_shape, .inl (cT 1, 12, .inr (.inl k_shape)))] U.heap ∧ va_K D vwCl (jT cT) U ∧ jNw U)) (vp_Si (fun r => r = r0)) 0 0 (fun _ => False) := by
  refine Met.ofW (cc := cX0_countLow) (maxL := 5) (ret := (some .int)) (by decide) rfl ?_
  intro p e s m args below meth c s₁ B hml hv
  obtain ⟨rfl, hP, hK, hN⟩ := hv
  have hx := B.exec
  have hb := B.bytes
  have hr := B.returns
  have hts := atoms_spec (ws := wsX0_countLow) B.pre
  have hown : s.vm.findClass RX0 = some m.cls := findClass_of_methodNamed B.named
  have hlocks := B.notSynchronized
  have hl := lv_entry ([.ref a_t]) (n := 5) (Nat.le_of_ble_eq_true rfl)
  rw [lg_entry_eq]
  generalize (lg_sl ([.ref a_t]) ++ List.replicate (5 - (lg_sl ([.ref a_t])).length) Slot.unset).toArray = ls at hl ⊢
  have hl : lv_has ls 5 [(0, .ref a_t)] := hl
  unfold f_Chart_countLow at hf
  refine lv_lconst (v := 0) hx hb dX0_countLow_0 (by decide) ?_
  refine lv_lstore_n (lv' := [(1, .long ((0 : Int64))), (0, .ref a_t)]) hx hb dX0_countLow_1 rfl hl (by decide) rfl (fun ls hl => ?_)
  refine lv_iconst (v := 0) hx hb dX0_countLow_2 (by decide) ?_
  refine lv_istore_n (lv' := [(3, .int ((0 : Int32))), (1, .long ((0 : Int64))), (0, .ref a_t)]) hx hb dX0_countLow_3 rfl hl (by decide) rfl (fun ls hl => ?_)
  replace hf := ob_b hf
  obtain ⟨ex_13, hq_14, hf⟩ := hf
  refine l_f_Chart_countLow_L4 hx hb hml hown hts hK hN hP jN _ _ ex_13 hq_14 ls (lv_sub hl [2, 1, 0] rfl) (fun v1_15 ee_29 ls hl => ?_)
  have ee_29 := ee_29.symm
  subst ee_29
  refine lv_iconst (v := 0) hx hb dX0_countLow_34 (by decide) ?_
  refine lv_istore_n (lv' := [(3, .int ((0 : Int32))), (0, .ref a_t), (1, .long v1_15)]) hx hb dX0_countLow_35 rfl hl (by decide) rfl (fun ls hl => ?_)
  refine lv_iconst (v := 0) hx hb dX0_countLow_36 (by decide) ?_
  refine lv_istore (lv' := [(4, .int ((0 : Int32))), (3, .int ((0 : Int32))), (0, .ref a_t), (1, .long v1_15)]) hx hb dX0_countLow_37 hl (by decide) rfl (fun ls hl => ?_)
  replace hf := ob_b hf
  obtain ⟨ex_25, hq_26, hf⟩ := hf
  refine l_f_Chart_countLow_L39 hx hb hml hown hts hK hN hP jN _ _ ex_25 hq_26 ls (lv_sub hl [2, 3, 1, 0] rfl) (fun v3_27 ee_28 ls hl => ?_)
  have ee_28 := ee_28.symm
  subst ee_28
  refine lv_iload_n hx hb dX0_countLow_70 rfl (lv_at hl 0 rfl) ?_
  cases hf
  exact W.iret hx hb hr (fun t ht hW => ⟨_, rfl, rfl, ht⟩) (fun q h => by cases h) dX0_countLow_71
theorem iw_wsX0_mirrored_X0 : ∀ w ∈ wsX00, w ∈ wsX0_mirrored := fun _ h => List.mem_cons_of_mem _ (List.mem_append_right _ h)
abbrev rm_Chart_mirrored : Room := { frames := 0, cells := 0, slots := 0, locals := 0 }
set_option maxHeartbeats 4000000 in
set_option maxRecDepth 100000 in
theorem c_f_Chart_mirrored (l : Launch) (D : va_G) (cT : Nat → ClassId) (a_t a_kind a_place a_length a_gate a_across a_wide a_high a_shape : Nat) (k_width : Int32) (k_height : Int32) (k_barges : Int32) (k_walls : Int64) (k_taken : Int64) (v1 : Int32) (v2 : Int32) (r0 : Int32) (hf : f_Chart_mirrored v1 v2 k_width = some r0) : Met l yX0_mirrored wsX0_mirrored rm_Chart_mirrored (va_Pc [.ref a_t, .int v1, .int v2] (fun U => va_P D vwCl [(a_t, .inr (0, [.int k_width, .int k_height, .int k_barges, .long k_walls, .long k_taken, .ref a_kind, .ref a_place, .ref a_length, .ref a_gate, .ref a_across, .ref a_wide, .ref a_high, .ref a_shape]))] U.heap ∧ va_K D vwCl (jT cT) U ∧ jNw U)) (vp_Si (fun r => r = r0)) 0 0 (fun _ => False) := by
  refine Met.ofW (cc := cX0_mirrored) (maxL := 4) (ret := (some .int)) (by decide) rfl ?_
  intro p e s m args below meth c s₁ B hml hv
  obtain ⟨rfl, hP, hK, hN⟩ := hv
  have hx := B.exec
  have hb := B.bytes
  have hr := B.returns
  have hts := atoms_spec (ws := wsX0_mirrored) B.pre
  have hown : s.vm.findClass RX0 = some m.cls := findClass_of_methodNamed B.named
  have hlocks := B.notSynchronized
  have hl := lv_entry ([.ref a_t, .int v1, .int v2]) (n := 4) (Nat.le_of_ble_eq_true rfl)
  rw [lg_entry_eq]
  generalize (lg_sl ([.ref a_t, .int v1, .int v2]) ++ List.replicate (4 - (lg_sl ([.ref a_t, .int v1, .int v2])).length) Slot.unset).toArray = ls at hl ⊢
  have hl : lv_has ls 4 [(0, .ref a_t), (1, .int v1), (2, .int v2)] := hl
  unfold f_Chart_mirrored at hf
  refine lv_iload_n hx hb dX0_mirrored_0 rfl (lv_at hl 1 rfl) ?_
  refine lv_bipush (v := 7) hx hb dX0_mirrored_1 (by decide) ?_
  refine lv_iand hx hb dX0_mirrored_3 ?_
  refine lv_topi (fun v3_1 ev3_1 => ?_)
  replace hf := ob_nm ev3_1 hf
  refine lv_istore_n (lv' := [(3, .int v3_1), (0, .ref a_t), (1, .int v1), (2, .int v2)]) hx hb dX0_mirrored_4 rfl hl (by decide) rfl (fun ls hl => ?_)
  refine lv_iload_n hx hb dX0_mirrored_5 rfl (lv_at hl 2 rfl) ?_
  refine lv_iload_n hx hb dX0_mirrored_6 rfl (lv_at hl 0 rfl) ?_
  refine lv_isub hx hb dX0_mirrored_7 ?_
  refine lv_aload_n hx hb dX0_mirrored_8 rfl (lv_at hl 1 rfl) ?_
  refine va_get (D := D) (ci := 0) (v := .int k_width) (C := RX0) (T := TX0) (N := 13) hx hb hts iw_wsX0_mirrored_X0 hown hK hP 0 rfl rfl 0 (by decide) (hts (.fieldLink RX0 38 "BargeBasin$Chart" "width" "I") (List.mem_of_getElem? (i := 1) (by decide +kernel))) (fun _ h9 => h9) rfl dX0_mirrored_9 ?_
  refine lv_iload_n hx hb dX0_mirrored_12 rfl (lv_at hl 0 rfl) ?_
  refine lv_isub hx hb dX0_mirrored_13 ?_
  refine lv_iload_n hx hb dX0_mirrored_14 rfl (lv_at hl 3 rfl) ?_
  refine lv_isub hx hb dX0_mirrored_15 ?_
  refine lv_iadd hx hb dX0_mirrored_16 ?_
  cases hf
  exact W.iret hx hb hr (fun t ht hW => ⟨_, rfl, rfl, ht⟩) (fun q h => by cases h) dX0_mirrored_17
