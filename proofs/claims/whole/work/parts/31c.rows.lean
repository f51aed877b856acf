theorem iw_wsX7_clearUndo_X7 : ∀ w ∈ wsX70, w ∈ wsX7_clearUndo := fun _ h => List.mem_cons_of_mem _ (List.mem_append_right _ h)
abbrev rm_BargeBasinModel_clearUndo : Room := { frames := 0, cells := 0, slots := 0, locals := 0 }
set_option maxHeartbeats 4000000 in
set_option maxRecDepth 100000 in
theorem c_f_BargeBasinModel_clearUndo (l : Launch) (D : va_G) (cT : Nat → ClassId) (sz : Nat) (a_t a_lineSort a_lineMany a_numbers a_wall a_kind a_at a_size a_way a_gate a_undoBarge a_undoFrom a_undoTo a_redoBarge a_redoFrom a_redoTo a_planBarge a_planWay a_planSteps a_places a_heads a_chain a_depth a_parent a_byBarge a_byWay a_bySteps a_far a_firstEdge a_edge a_edgeBarge a_count a_who a_here a_isKept a_keptWidth a_keptHeight a_keptBarges a_keptWall a_keptKind a_keptAt a_keptSize a_keptWay a_keptGate a_out a_counts a_oldNumbers a_newWall a_asAt a_asGate a_asWay a_asWide a_asTall a_asWall : Nat) (k_status : Int32) (k_thrown : Int32) (k_has : Int32) (k_width : Int32) (k_height : Int32) (k_barges : Int32) (k_undoMany : Int32) (k_redoMany : Int32) (k_whyStep : Int32) (k_whyWhat : Int32) (k_whyWho : Int32) (k_hasPlan : Int32) (k_planMany : Int32) (k_stands : Int32) (k_edges : Int32) (k_outs : Int32) (k_seed : Int32) (k_asWidth : Int32) (k_asHeight : Int32) (k_undoMany' : Int32) (k_redoMany' : Int32) (hf : f_BargeBasinModel_clearUndo k_undoMany k_redoMany = some (k_undoMany', k_redoMany')) : Met l yX7_clearUndo wsX7_clearUndo rm_BargeBasinModel_clearUndo (va_Pc [.ref a_t] (fun U => U.heap.size = sz ∧ va_P D vwCl [(a_t, .inr (7, [.int k_status, .int k_thrown, .int k_has, .int k_width, .int k_height, .ref a_lineSort, .ref a_lineMany, .ref a_numbers, .ref a_wall, .int k_barges, .ref a_kind, .ref a_at, .ref a_size, .ref a_way, .ref a_gate, .int k_undoMany, .int k_redoMany, .ref a_undoBarge, .ref a_undoFrom, .ref a_undoTo, .ref a_redoBarge, .ref a_redoFrom, .ref a_redoTo, .int k_whyStep, .int k_whyWhat, .int k_whyWho, .int k_hasPlan, .int k_planMany, .ref a_planBarge, .ref a_planWay, .ref a_planSteps, .int k_stands, .ref a_places, .ref a_heads, .ref a_chain, .ref a_depth, .ref a_parent, .ref a_byBarge, .ref a_byWay, .ref a_bySteps, .ref a_far, .ref a_firstEdge, .ref a_edge, .ref a_edgeBarge, .int k_edges, .ref a_count, .ref a_who, .ref a_here, .ref a_isKept, .ref a_keptWidth, .ref a_keptHeight, .ref a_keptBarges, .ref a_keptWall, .ref a_keptKind, .ref a_keptAt, .ref a_keptSize, .ref a_keptWay, .ref a_keptGate, .ref a_out, .int k_outs, .ref a_counts, .ref a_oldNumbers, .int k_seed, .ref a_newWall, .int k_asWidth, .int k_asHeight, .ref a_asAt, .ref a_asGate, .ref a_asWay, .ref a_asWide, .ref a_asTall, .ref a_asWall]))] U.heap ∧ va_K D vwCl (jT cT) U ∧ jNw U ∧ va_D (fun _ => True) [(a_t, .inr (7, [.int k_status, .int k_thrown, .int k_has, .int k_width, .int k_height, .ref a_lineSort, .ref a_lineMany, .ref a_numbers, .ref a_wall, .int k_barges, .ref a_kind, .ref a_at, .ref a_size, .ref a_way, .ref a_gate, .int k_undoMany, .int k_redoMany, .ref a_undoBarge, .ref a_undoFrom, .ref a_undoTo, .ref a_redoBarge, .ref a_redoFrom, .ref a_redoTo, .int k_whyStep, .int k_whyWhat, .int k_whyWho, .int k_hasPlan, .int k_planMany, .ref a_planBarge, .ref a_planWay, .ref a_planSteps, .int k_stands, .ref a_places, .ref a_heads, .ref a_chain, .ref a_depth, .ref a_parent, .ref a_byBarge, .ref a_byWay, .ref a_bySteps, .ref a_far, .ref a_firstEdge, .ref a_edge, .ref a_edgeBarge, .int k_edges, .ref a_count, .ref a_who, .ref a_here, .ref a_isKept, .ref a_keptWidth, .ref a_keptHeight, .ref a_keptBarges, .ref a_keptWall, .ref a_keptKind, .ref a_keptAt, .ref a_keptSize, .ref a_keptWay, .ref a_keptGate, .ref a_out, .int k_outs, .ref a_counts, .ref a_oldNumbers, .int k_seed, .ref a_newWall, .int k_asWidth, .int k_asHeight, .ref a_asAt, .ref a_asGate, .ref a_asWay, .ref a_asWide, .ref a_asTall, .ref a_asWall]))])) (va_Qv (fun _ : Unit => True) (fun (_ : Unit) t => va_P D vwCl [(a_t, .inr (7, [.int k_status, .int k_thrown, .int k_has, .int k_width, .int k_height, .ref a_lineSort, .ref a_lineMany, .ref a_numbers, .ref a_wall, .int k_barges, .ref a_kind, .ref a_at, .ref a_size, .ref a_way, .ref a_gate, .int k_undoMany', .int k_redoMany', .ref a_undoBarge, .ref a_undoFrom, .ref a_undoTo, .ref a_redoBarge, .ref a_redoFrom, .ref a_redoTo, .int k_whyStep, .int k_whyWhat, .int k_whyWho, .int k_hasPlan, .int k_planMany, .ref a_planBarge, .ref a_planWay, .ref a_planSteps, .int k_stands, .ref a_places, .ref a_heads, .ref a_chain, .ref a_depth, .ref a_parent, .ref a_byBarge, .ref a_byWay, .ref a_bySteps, .ref a_far, .ref a_firstEdge, .ref a_edge, .ref a_edgeBarge, .int k_edges, .ref a_count, .ref a_who, .ref a_here, .ref a_isKept, .ref a_keptWidth, .ref a_keptHeight, .ref a_keptBarges, .ref a_keptWall, .ref a_keptKind, .ref a_keptAt, .ref a_keptSize, .ref a_keptWay, .ref a_keptGate, .ref a_out, .int k_outs, .ref a_counts, .ref a_oldNumbers, .int k_seed, .ref a_newWall, .int k_asWidth, .int k_asHeight, .ref a_asAt, .ref a_asGate, .ref a_asWay, .ref a_asWide, .ref a_asTall, .ref a_asWall]))] t.heap ∧ va_K D vwCl (jT cT) t ∧ va_D (va_A [(a_t, .inr (7, [.int k_status, .int k_thrown, .int k_has, .int k_width, .int k_height, .ref a_lineSort, .ref a_lineMany, .ref a_numbers, .ref a_wall, .int k_barges, .ref a_kind, .ref a_at, .ref a_size, .ref a_way, .ref a_gate, .int k_undoMany, .int k_redoMany, .ref a_undoBarge, .ref a_undoFrom, .ref a_undoTo, .ref a_redoBarge, .ref a_redoFrom, .ref a_redoTo, .int k_whyStep, .int k_whyWhat, .int k_whyWho, .int k_hasPlan, .int k_planMany, .ref a_planBarge, .ref a_planWay, .ref a_planSteps, .int k_stands, .ref a_places, .ref a_heads, .ref a_chain, .ref a_depth, .ref a_parent, .ref a_byBarge, .ref a_byWay, .ref a_bySteps, .ref a_far, .ref a_firstEdge, .ref a_edge, .ref a_edgeBarge, .int k_edges, .ref a_count, .ref a_who, .ref a_here, .ref a_isKept, .ref a_keptWidth, .ref a_keptHeight, .ref a_keptBarges, .ref a_keptWall, .ref a_keptKind, .ref a_keptAt, .ref a_keptSize, .ref a_keptWay, .ref a_keptGate, .ref a_out, .int k_outs, .ref a_counts, .ref a_oldNumbers, .int k_seed, .ref a_newWall, .int k_asWidth, .int k_asHeight, .ref a_asAt, .ref a_asGate, .ref a_asWay, .ref a_asWide, .ref a_asTall, .ref a_asWall]))] sz) [(a_t, .inr (7, [.int k_status, .int k_thrown, .int k_has, .int k_width, .int k_height, .ref a_lineSort, .ref a_lineMany, .ref a_numbers, .ref a_wall, .int k_barges, .ref a_kind, .ref a_at, .ref a_size, .ref a_way, .ref a_gate, .int k_undoMany', .int k_redoMany', .ref a_undoBarge, .ref a_undoFrom, .ref a_undoTo, .ref a_redoBarge, .ref a_redoFrom, .ref a_redoTo, .int k_whyStep, .int k_whyWhat, .int k_whyWho, .int k_hasPlan, .int k_planMany, .ref a_planBarge, .ref a_planWay, .ref a_planSteps, .int k_stands, .ref a_places, .ref a_heads, .ref a_chain, .ref a_depth, .ref a_parent, .ref a_byBarge, .ref a_byWay, .ref a_bySteps, .ref a_far, .ref a_firstEdge, .ref a_edge, .ref a_edgeBarge, .int k_edges, .ref a_count, .ref a_who, .ref a_here, .ref a_isKept, .ref a_keptWidth, .ref a_keptHeight, .ref a_keptBarges, .ref a_keptWall, .ref a_keptKind, .ref a_keptAt, .ref a_keptSize, .ref a_keptWay, .ref a_keptGate, .ref a_out, .int k_outs, .ref a_counts, .ref a_oldNumbers, .int k_seed, .ref a_newWall, .int k_asWidth, .int k_asHeight, .ref a_asAt, .ref a_asGate, .ref a_asWay, .ref a_asWide, .ref a_asTall, .ref a_asWall]))]) (va_A [(a_t, .inr (7, [.int k_status, .int k_thrown, .int k_has, .int k_width, .int k_height, .ref a_lineSort, .ref a_lineMany, .ref a_numbers, .ref a_wall, .int k_barges, .ref a_kind, .ref a_at, .ref a_size, .ref a_way, .ref a_gate, .int k_undoMany, .int k_redoMany, .ref a_undoBarge, .ref a_undoFrom, .ref a_undoTo, .ref a_redoBarge, .ref a_redoFrom, .ref a_redoTo, .int k_whyStep, .int k_whyWhat, .int k_whyWho, .int k_hasPlan, .int k_planMany, .ref a_planBarge, .ref a_planWay, .ref a_planSteps, .int k_stands, .ref a_places, .ref a_heads, .ref a_chain, .ref a_depth, .ref a_parent, .ref a_byBarge, .ref a_byWay, .ref a_bySteps, .ref a_far, .ref a_firstEdge, .ref a_edge, .ref a_edgeBarge, .int k_edges, .ref a_count, .ref a_who, .ref a_here, .ref a_isKept, .ref a_keptWidth, .ref a_keptHeight, .ref a_keptBarges, .ref a_keptWall, .ref a_keptKind, .ref a_keptAt, .ref a_keptSize, .ref a_keptWay, .ref a_keptGate, .ref a_out, .int k_outs, .ref a_counts, .ref a_oldNumbers, .int k_seed, .ref a_newWall, .int k_asWidth, .int k_asHeight, .ref a_asAt, .ref a_asGate, .ref a_asWay, .ref a_asWide, .ref a_asTall, .ref a_asWall]))] sz)) 0 0 (va_A [(a_t, .inr (7, [.int k_status, .int k_thrown, .int k_has, .int k_width, .int k_height, .ref a_lineSort, .ref a_lineMany, .ref a_numbers, .ref a_wall, .int k_barges, .ref a_kind, .ref a_at, .ref a_size, .ref a_way, .ref a_gate, .int k_undoMany, .int k_redoMany, .ref a_undoBarge, .ref a_undoFrom, .ref a_undoTo, .ref a_redoBarge, .ref a_redoFrom, .ref a_redoTo, .int k_whyStep, .int k_whyWhat, .int k_whyWho, .int k_hasPlan, .int k_planMany, .ref a_planBarge, .ref a_planWay, .ref a_planSteps, .int k_stands, .ref a_places, .ref a_heads, .ref a_chain, .ref a_depth, .ref a_parent, .ref a_byBarge, .ref a_byWay, .ref a_bySteps, .ref a_far, .ref a_firstEdge, .ref a_edge, .ref a_edgeBarge, .int k_edges, .ref a_count, .ref a_who, .ref a_here, .ref a_isKept, .ref a_keptWidth, .ref a_keptHeight, .ref a_keptBarges, .ref a_keptWall, .ref a_keptKind, .ref a_keptAt, .ref a_keptSize, .ref a_keptWay, .ref a_keptGate, .ref a_out, .int k_outs, .ref a_counts, .ref a_oldNumbers, .int k_seed, .ref a_newWall, .int k_asWidth, .int k_asHeight, .ref a_asAt, .ref a_asGate, .ref a_asWay, .ref a_asWide, .ref a_asTall, .ref a_asWall]))] sz) := by
  refine Met.ofW (cc := cX7_clearUndo) (maxL := 1) (ret := none) (by decide) rfl ?_
  intro p e s m args below meth c s₁ B hml hv
  obtain ⟨rfl, hsz, hP, hK, hN, hD0⟩ := hv
  have hx := B.exec
  have hb := B.bytes
  have hr := B.returns
  have hts := atoms_spec (ws := wsX7_clearUndo) B.pre
  have hown : s.vm.findClass RX7 = some m.cls := findClass_of_methodNamed B.named
  have hlocks := B.notSynchronized
  subst hsz
  have hD := hD0.self (sz := s.heap.size)
  clear hD0
  generalize hAe : va_A [(a_t, .inr (7, [.int k_status, .int k_thrown, .int k_has, .int k_width, .int k_height, .ref a_lineSort, .ref a_lineMany, .ref a_numbers, .ref a_wall, .int k_barges, .ref a_kind, .ref a_at, .ref a_size, .ref a_way, .ref a_gate, .int k_undoMany, .int k_redoMany, .ref a_undoBarge, .ref a_undoFrom, .ref a_undoTo, .ref a_redoBarge, .ref a_redoFrom, .ref a_redoTo, .int k_whyStep, .int k_whyWhat, .int k_whyWho, .int k_hasPlan, .int k_planMany, .ref a_planBarge, .ref a_planWay, .ref a_planSteps, .int k_stands, .ref a_places, .ref a_heads, .ref a_chain, .ref a_depth, .ref a_parent, .ref a_byBarge, .ref a_byWay, .ref a_bySteps, .ref a_far, .ref a_firstEdge, .ref a_edge, .ref a_edgeBarge, .int k_edges, .ref a_count, .ref a_who, .ref a_here, .ref a_isKept, .ref a_keptWidth, .ref a_keptHeight, .ref a_keptBarges, .ref a_keptWall, .ref a_keptKind, .ref a_keptAt, .ref a_keptSize, .ref a_keptWay, .ref a_keptGate, .ref a_out, .int k_outs, .ref a_counts, .ref a_oldNumbers, .int k_seed, .ref a_newWall, .int k_asWidth, .int k_asHeight, .ref a_asAt, .ref a_asGate, .ref a_asWay, .ref a_asWide, .ref a_asTall, .ref a_asWall]))] s.heap.size = A at hD ⊢
  have hA : ∀ q : Nat, s.heap.size ≤ q → A q := fun q h => by rw [← hAe]; exact Or.inr h
  clear hAe
  have hl := lv_entry ([.ref a_t]) (n := 1) (Nat.le_of_ble_eq_true rfl)
  rw [lg_entry_eq]
  generalize (lg_sl ([.ref a_t]) ++ List.replicate (1 - (lg_sl ([.ref a_t])).length) Slot.unset).toArray = ls at hl ⊢
  have hl : lv_has ls 1 [(0, .ref a_t)] := hl
  refine j_start (A := A) hP (fun H locs hP hS => ?_)
  unfold f_BargeBasinModel_clearUndo at hf
  refine lv_aload_n hx hb dX7_clearUndo_0 rfl (lv_at hl 0 rfl) ?_
  refine lv_iconst (v := 0) hx hb dX7_clearUndo_1 (by decide) ?_
  refine va_put (D := D) (ci := 7) (v := .int ((0 : Int32))) (ty := .int) (C := RX7) (T := TX7) (N := 72) hx hb hts iw_wsX7_clearUndo_X7 tyX7 tyX7_ok nmX7 hown hK hP hD hS 0 rfl rfl 15 (by decide) (hts (.fieldLink RX7 196 "BargeBasinModel" "undoMany" "I") (List.mem_of_getElem? (i := 1) (by decide +kernel))) (fun _ h9 => h9) rfl (by decide +kernel) rfl rfl (Nat.le_of_ble_eq_true rfl) dX7_clearUndo_2 (fun H locs hP hD hS => ?_)
  replace hP : va_P D vwCl [(a_t, .inr (7, [.int k_status, .int k_thrown, .int k_has, .int k_width, .int k_height, .ref a_lineSort, .ref a_lineMany, .ref a_numbers, .ref a_wall, .int k_barges, .ref a_kind, .ref a_at, .ref a_size, .ref a_way, .ref a_gate, .int ((0 : Int32)), .int k_redoMany, .ref a_undoBarge, .ref a_undoFrom, .ref a_undoTo, .ref a_redoBarge, .ref a_redoFrom, .ref a_redoTo, .int k_whyStep, .int k_whyWhat, .int k_whyWho, .int k_hasPlan, .int k_planMany, .ref a_planBarge, .ref a_planWay, .ref a_planSteps, .int k_stands, .ref a_places, .ref a_heads, .ref a_chain, .ref a_depth, .ref a_parent, .ref a_byBarge, .ref a_byWay, .ref a_bySteps, .ref a_far, .ref a_firstEdge, .ref a_edge, .ref a_edgeBarge, .int k_edges, .ref a_count, .ref a_who, .ref a_here, .ref a_isKept, .ref a_keptWidth, .ref a_keptHeight, .ref a_keptBarges, .ref a_keptWall, .ref a_keptKind, .ref a_keptAt, .ref a_keptSize, .ref a_keptWay, .ref a_keptGate, .ref a_out, .int k_outs, .ref a_counts, .ref a_oldNumbers, .int k_seed, .ref a_newWall, .int k_asWidth, .int k_asHeight, .ref a_asAt, .ref a_asGate, .ref a_asWay, .ref a_asWide, .ref a_asTall, .ref a_asWall]))] H := hP
  replace hD : va_D A [(a_t, .inr (7, [.int k_status, .int k_thrown, .int k_has, .int k_width, .int k_height, .ref a_lineSort, .ref a_lineMany, .ref a_numbers, .ref a_wall, .int k_barges, .ref a_kind, .ref a_at, .ref a_size, .ref a_way, .ref a_gate, .int ((0 : Int32)), .int k_redoMany, .ref a_undoBarge, .ref a_undoFrom, .ref a_undoTo, .ref a_redoBarge, .ref a_redoFrom, .ref a_redoTo, .int k_whyStep, .int k_whyWhat, .int k_whyWho, .int k_hasPlan, .int k_planMany, .ref a_planBarge, .ref a_planWay, .ref a_planSteps, .int k_stands, .ref a_places, .ref a_heads, .ref a_chain, .ref a_depth, .ref a_parent, .ref a_byBarge, .ref a_byWay, .ref a_bySteps, .ref a_far, .ref a_firstEdge, .ref a_edge, .ref a_edgeBarge, .int k_edges, .ref a_count, .ref a_who, .ref a_here, .ref a_isKept, .ref a_keptWidth, .ref a_keptHeight, .ref a_keptBarges, .ref a_keptWall, .ref a_keptKind, .ref a_keptAt, .ref a_keptSize, .ref a_keptWay, .ref a_keptGate, .ref a_out, .int k_outs, .ref a_counts, .ref a_oldNumbers, .int k_seed, .ref a_newWall, .int k_asWidth, .int k_asHeight, .ref a_asAt, .ref a_asGate, .ref a_asWay, .ref a_asWide, .ref a_asTall, .ref a_asWall]))] := hD
  refine lv_aload_n hx hb dX7_clearUndo_5 rfl (lv_at hl 0 rfl) ?_
  refine lv_iconst (v := 0) hx hb dX7_clearUndo_6 (by decide) ?_
  refine va_put (D := D) (ci := 7) (v := .int ((0 : Int32))) (ty := .int) (C := RX7) (T := TX7) (N := 72) hx hb hts iw_wsX7_clearUndo_X7 tyX7 tyX7_ok nmX7 hown hK hP hD hS 0 rfl rfl 16 (by decide) (hts (.fieldLink RX7 199 "BargeBasinModel" "redoMany" "I") (List.mem_of_getElem? (i := 2) (by decide +kernel))) (fun _ h9 => h9) rfl (by decide +kernel) rfl rfl (Nat.le_of_ble_eq_true rfl) dX7_clearUndo_7 (fun H locs hP hD hS => ?_)
  replace hP : va_P D vwCl [(a_t, .inr (7, [.int k_status, .int k_thrown, .int k_has, .int k_width, .int k_height, .ref a_lineSort, .ref a_lineMany, .ref a_numbers, .ref a_wall, .int k_barges, .ref a_kind, .ref a_at, .ref a_size, .ref a_way, .ref a_gate, .int ((0 : Int32)), .int ((0 : Int32)), .ref a_undoBarge, .ref a_undoFrom, .ref a_undoTo, .ref a_redoBarge, .ref a_redoFrom, .ref a_redoTo, .int k_whyStep, .int k_whyWhat, .int k_whyWho, .int k_hasPlan, .int k_planMany, .ref a_planBarge, .ref a_planWay, .ref a_planSteps, .int k_stands, .ref a_places, .ref a_heads, .ref a_chain, .ref a_depth, .ref a_parent, .ref a_byBarge, .ref a_byWay, .ref a_bySteps, .ref a_far, .ref a_firstEdge, .ref a_edge, .ref a_edgeBarge, .int k_edges, .ref a_count, .ref a_who, .ref a_here, .ref a_isKept, .ref a_keptWidth, .ref a_keptHeight, .ref a_keptBarges, .ref a_keptWall, .ref a_keptKind, .ref a_keptAt, .ref a_keptSize, .ref a_keptWay, .ref a_keptGate, .ref a_out, .int k_outs, .ref a_counts, .ref a_oldNumbers, .int k_seed, .ref a_newWall, .int k_asWidth, .int k_asHeight, .ref a_asAt, .ref a_asGate, .ref a_asWay, .ref a_asWide, .ref a_asTall, .ref a_asWall]))] H := hP
  replace hD : va_D A [(a_t, .inr (7, [.int k_status, .int k_thrown, .int k_has, .int k_width, .int k_height, .ref a_lineSort, .ref a_lineMany, .ref a_numbers, .ref a_wall, .int k_barges, .ref a_kind, .ref a_at, .ref a_size, .ref a_way, .ref a_gate, .int ((0 : Int32)), .int ((0 : Int32)), .ref a_undoBarge, .ref a_undoFrom, .ref a_undoTo, .ref a_redoBarge, .ref a_redoFrom, .ref a_redoTo, .int k_whyStep, .int k_whyWhat, .int k_whyWho, .int k_hasPlan, .int k_planMany, .ref a_planBarge, .ref a_planWay, .ref a_planSteps, .int k_stands, .ref a_places, .ref a_heads, .ref a_chain, .ref a_depth, .ref a_parent, .ref a_byBarge, .ref a_byWay, .ref a_bySteps, .ref a_far, .ref a_firstEdge, .ref a_edge, .ref a_edgeBarge, .int k_edges, .ref a_count, .ref a_who, .ref a_here, .ref a_isKept, .ref a_keptWidth, .ref a_keptHeight, .ref a_keptBarges, .ref a_keptWall, .ref a_keptKind, .ref a_keptAt, .ref a_keptSize, .ref a_keptWay, .ref a_keptGate, .ref a_out, .int k_outs, .ref a_counts, .ref a_oldNumbers, .int k_seed, .ref a_newWall, .int k_asWidth, .int k_asHeight, .ref a_asAt, .ref a_asGate, .ref a_asWay, .ref a_asWide, .ref a_asTall, .ref a_asWall]))] := hD
  replace hf := ob_t2 hf
  obtain ⟨ee0, ee1⟩ := hf
  subst ee0
  subst ee1
  exact W.vret hx hb hr (fun t ht hW => ⟨⟨(), rfl, trivial, by rw [ht]; exact hP, va_K.moved hW.alike hK, hD⟩, hS.F ht⟩) hS.2.2 dX7_clearUndo_10
theorem iw_wsX7_isLong_X7 : ∀ w ∈ wsX70, w ∈ wsX7_isLong := fun _ h => List.mem_cons_of_mem _ (List.mem_append_right _ h)
abbrev rm_BargeBasinModel_isLong : Room := { frames := 0, cells := 0, slots := 0, locals := 0 }
set_option maxHeartbeats 4000000 in
set_option maxRecDepth 100000 in
theorem c_f_BargeBasinModel_isLong (l : Launch) (D : va_G) (cT : Nat → ClassId) (a_t a_lineSort a_lineMany a_numbers a_wall a_kind a_at a_size a_way a_gate a_undoBarge a_undoFrom a_undoTo a_redoBarge a_redoFrom a_redoTo a_planBarge a_planWay a_planSteps a_places a_heads a_chain a_depth a_parent a_byBarge a_byWay a_bySteps a_far a_firstEdge a_edge a_edgeBarge a_count a_who a_here a_isKept a_keptWidth a_keptHeight a_keptBarges a_keptWall a_keptKind a_keptAt a_keptSize a_keptWay a_keptGate a_out a_counts a_oldNumbers a_newWall a_asAt a_asGate a_asWay a_asWide a_asTall a_asWall : Nat) (k_status : Int32) (k_thrown : Int32) (k_has : Int32) (k_width : Int32) (k_height : Int32) (k_barges : Int32) (k_undoMany : Int32) (k_redoMany : Int32) (k_whyStep : Int32) (k_whyWhat : Int32) (k_whyWho : Int32) (k_hasPlan : Int32) (k_planMany : Int32) (k_stands : Int32) (k_edges : Int32) (k_outs : Int32) (k_seed : Int32) (k_asWidth : Int32) (k_asHeight : Int32) (k_kind : Nat → Int32) (v1 : Int32) (r0 : Int32) (hf : f_BargeBasinModel_isLong v1 k_kind = some r0) : Met l yX7_isLong wsX7_isLong rm_BargeBasinModel_isLong (va_Pc [.ref a_t, .int v1] (fun U => va_P D vwCl [(a_t, .inr (7, [.int k_status, .int k_thrown, .int k_has, .int k_width, .int k_height, .ref a_lineSort, .ref a_lineMany, .ref a_numbers, .ref a_wall, .int k_barges, .ref a_kind, .ref a_at, .ref a_size, .ref a_way, .ref a_gate, .int k_undoMany, .int k_redoMany, .ref a_undoBarge, .ref a_undoFrom, .ref a_undoTo, .ref a_redoBarge, .ref a_redoFrom, .ref a_redoTo, .int k_whyStep, .int k_whyWhat, .int k_whyWho, .int k_hasPlan, .int k_planMany, .ref a_planBarge, .ref a_planWay, .ref a_planSteps, .int k_stands, .ref a_places, .ref a_heads, .ref a_chain, .ref a_depth, .ref a_parent, .ref a_byBarge, .ref a_byWay, .ref a_bySteps, .ref a_far, .ref a_firstEdge, .ref a_edge, .ref a_edgeBarge, .int k_edges, .ref a_count, .ref a_who, .ref a_here, .ref a_isKept, .ref a_keptWidth, .ref a_keptHeight, .ref a_keptBarges, .ref a_keptWall, .ref a_keptKind, .ref a_keptAt, .ref a_keptSize, .ref a_keptWay, .ref a_keptGate, .ref a_out, .int k_outs, .ref a_counts, .ref a_oldNumbers, .int k_seed, .ref a_newWall, .int k_asWidth, .int k_asHeight, .ref a_asAt, .ref a_asGate, .ref a_asWay, .ref a_asWide, .ref a_asTall, .ref a_asWall])), (a_kind, .inl (cT 0, 12, .inl k_kind))] U.heap ∧ va_K D vwCl (jT cT) U ∧ jNw U)) (vp_Si (fun r => r = r0)) 0 0 (fun _ => False) := by
  refine Met.ofW (cc := cX7_isLong) (maxL := 2) (ret := (some .boolean)) (by decide) rfl ?_
  intro p e s m args below meth c s₁ B hml hv
  obtain ⟨rfl, hP, hK, hN⟩ := hv
  have hx := B.exec
  have hb := B.bytes
  have hr := B.returns
  have hts := atoms_spec (ws := wsX7_isLong) B.pre
  have hown : s.vm.findClass RX7 = some m.cls := findClass_of_methodNamed B.named
  have hlocks := B.notSynchronized
  have hl := lv_entry ([.ref a_t, .int v1]) (n := 2) (Nat.le_of_ble_eq_true rfl)
  rw [lg_entry_eq]
  generalize (lg_sl ([.ref a_t, .int v1]) ++ List.replicate (2 - (lg_sl ([.ref a_t, .int v1])).length) Slot.unset).toArray = ls at hl ⊢
  have hl : lv_has ls 2 [(0, .ref a_t), (1, .int v1)] := hl
  unfold f_BargeBasinModel_isLong at hf
  refine lv_aload_n hx hb dX7_isLong_0 rfl (lv_at hl 0 rfl) ?_
  refine va_get (D := D) (ci := 7) (v := .ref a_kind) (C := RX7) (T := TX7) (N := 72) hx hb hts iw_wsX7_isLong_X7 hown hK hP 0 rfl rfl 10 (by decide) (hts (.fieldLink RX7 23 "BargeBasinModel" "kind" "[I") (List.mem_of_getElem? (i := 1) (by decide +kernel))) (fun _ h9 => h9) rfl dX7_isLong_1 ?_
  refine lv_iload_n hx hb dX7_isLong_4 rfl (lv_at hl 1 rfl) ?_
  replace hf := ob_grd hf
  obtain ⟨hi_1, hf⟩ := hf
  refine va_iald hx hb hK hP 1 0 rfl rfl hi_1 dX7_isLong_5 ?_
  refine lv_iconst (v := 1) hx hb dX7_isLong_6 (by decide) ?_
  refine lv_icmp_eq (tgt := 20) hx hb dX7_isLong_7 (by decide) (fun c_2 => ?_) (fun c_2 => ?_)
  · replace hf := ob_pos c_2 hf
    refine lv_iconst (v := 1) hx hb dX7_isLong_20 (by decide) ?_
    refine lv_goto (tgt := 25) hx hb dX7_isLong_21 (by decide) ?_
    cases hf
    exact W.zret hx hb hr (by decide +kernel) (fun t ht hW => ⟨_, rfl, rfl, ht⟩) (fun q h => by cases h) dX7_isLong_25
  · replace hf := ob_neg c_2 hf
    refine lv_aload_n hx hb dX7_isLong_10 rfl (lv_at hl 0 rfl) ?_
    refine va_get (D := D) (ci := 7) (v := .ref a_kind) (C := RX7) (T := TX7) (N := 72) hx hb hts iw_wsX7_isLong_X7 hown hK hP 0 rfl rfl 10 (by decide) (hts (.fieldLink RX7 23 "BargeBasinModel" "kind" "[I") (List.mem_of_getElem? (i := 1) (by decide +kernel))) (fun _ h9 => h9) rfl dX7_isLong_11 ?_
    refine lv_iload_n hx hb dX7_isLong_14 rfl (lv_at hl 1 rfl) ?_
    replace hf := ob_grd hf
    obtain ⟨hi_3, hf⟩ := hf
    refine va_iald hx hb hK hP 1 0 rfl rfl hi_3 dX7_isLong_15 ?_
    refine lv_iconst (v := 5) hx hb dX7_isLong_16 (by decide) ?_
    refine lv_icmp_ne (tgt := 24) hx hb dX7_isLong_17 (by decide) (fun c_4 => ?_) (fun c_4 => ?_)
    · replace hf := ob_neg c_4 hf
      refine lv_iconst (v := 0) hx hb dX7_isLong_24 (by decide) ?_
      cases hf
      exact W.zret hx hb hr (by decide +kernel) (fun t ht hW => ⟨_, rfl, rfl, ht⟩) (fun q h => by cases h) dX7_isLong_25
    · replace hf := ob_pos c_4 hf
      refine lv_iconst (v := 1) hx hb dX7_isLong_20 (by decide) ?_
      refine lv_goto (tgt := 25) hx hb dX7_isLong_21 (by decide) ?_
      cases hf
      exact W.zret hx hb hr (by decide +kernel) (fun t ht hW => ⟨_, rfl, rfl, ht⟩) (fun q h => by cases h) dX7_isLong_25
theorem iw_wsX7_wide_X7 : ∀ w ∈ wsX70, w ∈ wsX7_wide := fun _ h => List.mem_cons_of_mem _ (List.mem_append_right _ h)
abbrev rm_BargeBasinModel_wide : Room := { frames := 1, cells := 0, slots := 0, locals := 21 }
set_option maxHeartbeats 4000000 in
set_option maxRecDepth 100000 in
theorem c_f_BargeBasinModel_wide (l : Launch) (D : va_G) (cT : Nat → ClassId) (a_t a_lineSort a_lineMany a_numbers a_wall a_kind a_at a_size a_way a_gate a_undoBarge a_undoFrom a_undoTo a_redoBarge a_redoFrom a_redoTo a_planBarge a_planWay a_planSteps a_places a_heads a_chain a_depth a_parent a_byBarge a_byWay a_bySteps a_far a_firstEdge a_edge a_edgeBarge a_count a_who a_here a_isKept a_keptWidth a_keptHeight a_keptBarges a_keptWall a_keptKind a_keptAt a_keptSize a_keptWay a_keptGate a_out a_counts a_oldNumbers a_newWall a_asAt a_asGate a_asWay a_asWide a_asTall a_asWall : Nat) (k_status : Int32) (k_thrown : Int32) (k_has : Int32) (k_width : Int32) (k_height : Int32) (k_barges : Int32) (k_undoMany : Int32) (k_redoMany : Int32) (k_whyStep : Int32) (k_whyWhat : Int32) (k_whyWho : Int32) (k_hasPlan : Int32) (k_planMany : Int32) (k_stands : Int32) (k_edges : Int32) (k_outs : Int32) (k_seed : Int32) (k_asWidth : Int32) (k_asHeight : Int32) (k_kind : Nat → Int32) (k_size : Nat → Int32) (k_way : Nat → Int32) (v1 : Int32) (r0 : Int32) (hf : f_BargeBasinModel_wide v1 k_kind k_size k_way = some r0) : Met l yX7_wide wsX7_wide rm_BargeBasinModel_wide (va_Pc [.ref a_t, .int v1] (fun U => va_P D vwCl [(a_t, .inr (7, [.int k_status, .int k_thrown, .int k_has, .int k_width, .int k_height, .ref a_lineSort, .ref a_lineMany, .ref a_numbers, .ref a_wall, .int k_barges, .ref a_kind, .ref a_at, .ref a_size, .ref a_way, .ref a_gate, .int k_undoMany, .int k_redoMany, .ref a_undoBarge, .ref a_undoFrom, .ref a_undoTo, .ref a_redoBarge, .ref a_redoFrom, .ref a_redoTo, .int k_whyStep, .int k_whyWhat, .int k_whyWho, .int k_hasPlan, .int k_planMany, .ref a_planBarge, .ref a_planWay, .ref a_planSteps, .int k_stands, .ref a_places, .ref a_heads, .ref a_chain, .ref a_depth, .ref a_parent, .ref a_byBarge, .ref a_byWay, .ref a_bySteps, .ref a_far, .ref a_firstEdge, .ref a_edge, .ref a_edgeBarge, .int k_edges, .ref a_count, .ref a_who, .ref a_here, .ref a_isKept, .ref a_keptWidth, .ref a_keptHeight, .ref a_keptBarges, .ref a_keptWall, .ref a_keptKind, .ref a_keptAt, .ref a_keptSize, .ref a_keptWay, .ref a_keptGate, .ref a_out, .int k_outs, .ref a_counts, .ref a_oldNumbers, .int k_seed, .ref a_newWall, .int k_asWidth, .int k_asHeight, .ref a_asAt, .ref a_asGate, .ref a_asWay, .ref a_asWide, .ref a_asTall, .ref a_asWall])), (a_kind, .inl (cT 0, 12, .inl k_kind)), (a_size, .inl (cT 0, 12, .inl k_size)), (a_way, .inl (cT 0, 12, .inl k_way))] U.heap ∧ va_K D vwCl (jT cT) U ∧ jNw U)) (vp_Si (fun r => r = r0)) 0 0 (fun _ => False) := by
  refine Met.ofW (cc := cX7_wide) (maxL := 2) (ret := (some .int)) (by decide) rfl ?_
  intro p e s m args below meth c s₁ B hml hv
  obtain ⟨rfl, hP, hK, hN⟩ := hv
  have hx := B.exec
  have hb := B.bytes
  have hr := B.returns
  have hts := atoms_spec (ws := wsX7_wide) B.pre
  have hown : s.vm.findClass RX7 = some m.cls := findClass_of_methodNamed B.named
  have hlocks := B.notSynchronized
  have hl := lv_entry ([.ref a_t, .int v1]) (n := 2) (Nat.le_of_ble_eq_true rfl)
  rw [lg_entry_eq]
  generalize (lg_sl ([.ref a_t, .int v1]) ++ List.replicate (2 - (lg_sl ([.ref a_t, .int v1])).length) Slot.unset).toArray = ls at hl ⊢
  have hl : lv_has ls 2 [(0, .ref a_t), (1, .int v1)] := hl
  unfold f_BargeBasinModel_wide at hf
  refine lv_aload_n hx hb dX7_wide_0 rfl (lv_at hl 0 rfl) ?_
  refine va_get (D := D) (ci := 7) (v := .ref a_kind) (C := RX7) (T := TX7) (N := 72) hx hb hts iw_wsX7_wide_X7 hown hK hP 0 rfl rfl 10 (by decide) (hts (.fieldLink RX7 23 "BargeBasinModel" "kind" "[I") (List.mem_of_getElem? (i := 1) (by decide +kernel))) (fun _ h9 => h9) rfl dX7_wide_1 ?_
  refine lv_iload_n hx hb dX7_wide_4 rfl (lv_at hl 1 rfl) ?_
  replace hf := ob_grd hf
  obtain ⟨hi_1, hf⟩ := hf
  refine va_iald hx hb hK hP 1 0 rfl rfl hi_1 dX7_wide_5 ?_
  refine lv_iconst (v := 3) hx hb dX7_wide_6 (by decide) ?_
  refine lv_icmp_ne (tgt := 14) hx hb dX7_wide_7 (by decide) (fun c_2 => ?_) (fun c_2 => ?_)
  · replace hf := ob_neg c_2 hf
    refine lv_aload_n hx hb dX7_wide_14 rfl (lv_at hl 0 rfl) ?_
    refine lv_iload_n hx hb dX7_wide_15 rfl (lv_at hl 1 rfl) ?_
    replace hf := ob_b hf
    obtain ⟨zr_3, hc_4, hf⟩ := hf
    refine vp_callSi (W.runV (As := [.int v1]) (rest := []) ⟨hx, hb, hml, hown, hts⟩ (c_f_BargeBasinModel_isLong l D cT a_t a_lineSort a_lineMany a_numbers a_wall a_kind a_at a_size a_way a_gate a_undoBarge a_undoFrom a_undoTo a_redoBarge a_redoFrom a_redoTo a_planBarge a_planWay a_planSteps a_places a_heads a_chain a_depth a_parent a_byBarge a_byWay a_bySteps a_far a_firstEdge a_edge a_edgeBarge a_count a_who a_here a_isKept a_keptWidth a_keptHeight a_keptBarges a_keptWall a_keptKind a_keptAt a_keptSize a_keptWay a_keptGate a_out a_counts a_oldNumbers a_newWall a_asAt a_asGate a_asWay a_asWide a_asTall a_asWall k_status k_thrown k_has k_width k_height k_barges k_undoMany k_redoMany k_whyStep k_whyWhat k_whyWho k_hasPlan k_planMany k_stands k_edges k_outs k_seed k_asWidth k_asHeight k_kind v1 _ hc_4) (cwV 1 hts gX7_wide_X7_isLong rfl rfl rfl (by decide +kernel) ⟨Nat.le_of_ble_eq_true rfl, Nat.le_of_ble_eq_true rfl⟩) ⟨fun a U g mk q => by obtain ⟨q0, qP, qK, qN⟩ := q; exact ⟨q0, qP, va_K.moved (u := U) (U := U.calling g mk a) (Vm.Alike.refl U.vm) qK, jNw_same (u := U) (U := U.calling g mk a) rfl qN⟩, va_recv hK hP (ci := 7) (q0 := 0) rfl rfl, fun U hU hW => ⟨rfl, by rw [hU]; exact hP.sub [0, 1] rfl, va_K.moved hW.alike hK, jNw_warm hW hN⟩⟩ rfl rfl hl.1 rfl (lv_room (Nat.le_of_ble_eq_true rfl)) dX7_wide_16 ⟨Nat.le_of_ble_eq_true rfl, Nat.le_of_ble_eq_true rfl⟩) (fun r_3 er_5 => ?_)
    subst er_5
    refine lv_if_eq (tgt := 40) hx hb dX7_wide_19 (by decide) (fun c_6 => ?_) (fun c_6 => ?_)
    · replace hf := ob_pos c_6 hf
      refine lv_iconst (v := 1) hx hb dX7_wide_40 (by decide) ?_
      cases hf
      exact W.iret hx hb hr (fun t ht hW => ⟨_, rfl, rfl, ht⟩) (fun q h => by cases h) dX7_wide_41
    · replace hf := ob_neg c_6 hf
      refine lv_aload_n hx hb dX7_wide_22 rfl (lv_at hl 0 rfl) ?_
      refine va_get (D := D) (ci := 7) (v := .ref a_way) (C := RX7) (T := TX7) (N := 72) hx hb hts iw_wsX7_wide_X7 hown hK hP 0 rfl rfl 13 (by decide) (hts (.fieldLink RX7 32 "BargeBasinModel" "way" "[I") (List.mem_of_getElem? (i := 2) (by decide +kernel))) (fun _ h9 => h9) rfl dX7_wide_23 ?_
      refine lv_iload_n hx hb dX7_wide_26 rfl (lv_at hl 1 rfl) ?_
      replace hf := ob_grd hf
      obtain ⟨hi_7, hf⟩ := hf
      refine va_iald hx hb hK hP 3 0 rfl rfl hi_7 dX7_wide_27 ?_
      refine lv_if_ne (tgt := 40) hx hb dX7_wide_28 (by decide) (fun c_8 => ?_) (fun c_8 => ?_)
      · replace hf := ob_neg c_8 hf
        refine lv_iconst (v := 1) hx hb dX7_wide_40 (by decide) ?_
        cases hf
        exact W.iret hx hb hr (fun t ht hW => ⟨_, rfl, rfl, ht⟩) (fun q h => by cases h) dX7_wide_41
      · replace hf := ob_pos c_8 hf
        refine lv_aload_n hx hb dX7_wide_31 rfl (lv_at hl 0 rfl) ?_
        refine va_get (D := D) (ci := 7) (v := .ref a_size) (C := RX7) (T := TX7) (N := 72) hx hb hts iw_wsX7_wide_X7 hown hK hP 0 rfl rfl 12 (by decide) (hts (.fieldLink RX7 29 "BargeBasinModel" "size" "[I") (List.mem_of_getElem? (i := 3) (by decide +kernel))) (fun _ h9 => h9) rfl dX7_wide_32 ?_
        refine lv_iload_n hx hb dX7_wide_35 rfl (lv_at hl 1 rfl) ?_
        replace hf := ob_grd hf
        obtain ⟨hi_9, hf⟩ := hf
        refine va_iald hx hb hK hP 2 0 rfl rfl hi_9 dX7_wide_36 ?_
        refine lv_goto (tgt := 41) hx hb dX7_wide_37 (by decide) ?_
        cases hf
        exact W.iret hx hb hr (fun t ht hW => ⟨_, rfl, rfl, ht⟩) (fun q h => by cases h) dX7_wide_41
  · replace hf := ob_pos c_2 hf
    refine lv_iconst (v := 2) hx hb dX7_wide_10 (by decide) ?_
    refine lv_goto (tgt := 41) hx hb dX7_wide_11 (by decide) ?_
    cases hf
    exact W.iret hx hb hr (fun t ht hW => ⟨_, rfl, rfl, ht⟩) (fun q h => by cases h) dX7_wide_41
theorem iw_wsX7_tall_X7 : ∀ w ∈ wsX70, w ∈ wsX7_tall := fun _ h => List.mem_cons_of_mem _ (List.mem_append_right _ h)
abbrev rm_BargeBasinModel_tall : Room := { frames := 1, cells := 0, slots := 0, locals := 21 }
set_option maxHeartbeats 4000000 in
set_option maxRecDepth 100000 in
theorem c_f_BargeBasinModel_tall (l : Launch) (D : va_G) (cT : Nat → ClassId) (a_t a_lineSort a_lineMany a_numbers a_wall a_kind a_at a_size a_way a_gate a_undoBarge a_undoFrom a_undoTo a_redoBarge a_redoFrom a_redoTo a_planBarge a_planWay a_planSteps a_places a_heads a_chain a_depth a_parent a_byBarge a_byWay a_bySteps a_far a_firstEdge a_edge a_edgeBarge a_count a_who a_here a_isKept a_keptWidth a_keptHeight a_keptBarges a_keptWall a_keptKind a_keptAt a_keptSize a_keptWay a_keptGate a_out a_counts a_oldNumbers a_newWall a_asAt a_asGate a_asWay a_asWide a_asTall a_asWall : Nat) (k_status : Int32) (k_thrown : Int32) (k_has : Int32) (k_width : Int32) (k_height : Int32) (k_barges : Int32) (k_undoMany : Int32) (k_redoMany : Int32) (k_whyStep : Int32) (k_whyWhat : Int32) (k_whyWho : Int32) (k_hasPlan : Int32) (k_planMany : Int32) (k_stands : Int32) (k_edges : Int32) (k_outs : Int32) (k_seed : Int32) (k_asWidth : Int32) (k_asHeight : Int32) (k_kind : Nat → Int32) (k_size : Nat → Int32) (k_way : Nat → Int32) (v1 : Int32) (r0 : Int32) (hf : f_BargeBasinModel_tall v1 k_kind k_size k_way = some r0) : Met l yX7_tall wsX7_tall rm_BargeBasinModel_tall (va_Pc [.ref a_t, .int v1] (fun U => va_P D vwCl [(a_t, .inr (7, [.int k_status, .int k_thrown, .int k_has, .int k_width, .int k_height, .ref a_lineSort, .ref a_lineMany, .ref a_numbers, .ref a_wall, .int k_barges, .ref a_kind, .ref a_at, .ref a_size, .ref a_way, .ref a_gate, .int k_undoMany, .int k_redoMany, .ref a_undoBarge, .ref a_undoFrom, .ref a_undoTo, .ref a_redoBarge, .ref a_redoFrom, .ref a_redoTo, .int k_whyStep, .int k_whyWhat, .int k_whyWho, .int k_hasPlan, .int k_planMany, .ref a_planBarge, .ref a_planWay, .ref a_planSteps, .int k_stands, .ref a_places, .ref a_heads, .ref a_chain, .ref a_depth, .ref a_parent, .ref a_byBarge, .ref a_byWay, .ref a_bySteps, .ref a_far, .ref a_firstEdge, .ref a_edge, .ref a_edgeBarge, .int k_edges, .ref a_count, .ref a_who, .ref a_here, .ref a_isKept, .ref a_keptWidth, .ref a_keptHeight, .ref a_keptBarges, .ref a_keptWall, .ref a_keptKind, .ref a_keptAt, .ref a_keptSize, .ref a_keptWay, .ref a_keptGate, .ref a_out, .int k_outs, .ref a_counts, .ref a_oldNumbers, .int k_seed, .ref a_newWall, .int k_asWidth, .int k_asHeight, .ref a_asAt, .ref a_asGate, .ref a_asWay, .ref a_asWide, .ref a_asTall, .ref a_asWall])), (a_kind, .inl (cT 0, 12, .inl k_kind)), (a_size, .inl (cT 0, 12, .inl k_size)), (a_way, .inl (cT 0, 12, .inl k_way))] U.heap ∧ va_K D vwCl (jT cT) U ∧ jNw U)) (vp_Si (fun r => r = r0)) 0 0 (fun _ => False) := by
  refine Met.ofW (cc := cX7_tall) (maxL := 2) (ret := (some .int)) (by decide) rfl ?_
  intro p e s m args below meth c s₁ B hml hv
  obtain ⟨rfl, hP, hK, hN⟩ := hv
  have hx := B.exec
  have hb := B.bytes
  have hr := B.returns
  have hts := atoms_spec (ws := wsX7_tall) B.pre
  have hown : s.vm.findClass RX7 = some m.cls := findClass_of_methodNamed B.named
  have hlocks := B.notSynchronized
  have hl := lv_entry ([.ref a_t, .int v1]) (n := 2) (Nat.le_of_ble_eq_true rfl)
  rw [lg_entry_eq]
  generalize (lg_sl ([.ref a_t, .int v1]) ++ List.replicate (2 - (lg_sl ([.ref a_t, .int v1])).length) Slot.unset).toArray = ls at hl ⊢
  have hl : lv_has ls 2 [(0, .ref a_t), (1, .int v1)] := hl
  unfold f_BargeBasinModel_tall at hf
  refine lv_aload_n hx hb dX7_tall_0 rfl (lv_at hl 0 rfl) ?_
  refine va_get (D := D) (ci := 7) (v := .ref a_kind) (C := RX7) (T := TX7) (N := 72) hx hb hts iw_wsX7_tall_X7 hown hK hP 0 rfl rfl 10 (by decide) (hts (.fieldLink RX7 23 "BargeBasinModel" "kind" "[I") (List.mem_of_getElem? (i := 1) (by decide +kernel))) (fun _ h9 => h9) rfl dX7_tall_1 ?_
  refine lv_iload_n hx hb dX7_tall_4 rfl (lv_at hl 1 rfl) ?_
  replace hf := ob_grd hf
  obtain ⟨hi_1, hf⟩ := hf
  refine va_iald hx hb hK hP 1 0 rfl rfl hi_1 dX7_tall_5 ?_
  refine lv_iconst (v := 3) hx hb dX7_tall_6 (by decide) ?_
  refine lv_icmp_ne (tgt := 14) hx hb dX7_tall_7 (by decide) (fun c_2 => ?_) (fun c_2 => ?_)
  · replace hf := ob_neg c_2 hf
    refine lv_aload_n hx hb dX7_tall_14 rfl (lv_at hl 0 rfl) ?_
    refine lv_iload_n hx hb dX7_tall_15 rfl (lv_at hl 1 rfl) ?_
    replace hf := ob_b hf
    obtain ⟨zr_3, hc_4, hf⟩ := hf
    refine vp_callSi (W.runV (As := [.int v1]) (rest := []) ⟨hx, hb, hml, hown, hts⟩ (c_f_BargeBasinModel_isLong l D cT a_t a_lineSort a_lineMany a_numbers a_wall a_kind a_at a_size a_way a_gate a_undoBarge a_undoFrom a_undoTo a_redoBarge a_redoFrom a_redoTo a_planBarge a_planWay a_planSteps a_places a_heads a_chain a_depth a_parent a_byBarge a_byWay a_bySteps a_far a_firstEdge a_edge a_edgeBarge a_count a_who a_here a_isKept a_keptWidth a_keptHeight a_keptBarges a_keptWall a_keptKind a_keptAt a_keptSize a_keptWay a_keptGate a_out a_counts a_oldNumbers a_newWall a_asAt a_asGate a_asWay a_asWide a_asTall a_asWall k_status k_thrown k_has k_width k_height k_barges k_undoMany k_redoMany k_whyStep k_whyWhat k_whyWho k_hasPlan k_planMany k_stands k_edges k_outs k_seed k_asWidth k_asHeight k_kind v1 _ hc_4) (cwV 1 hts gX7_tall_X7_isLong rfl rfl rfl (by decide +kernel) ⟨Nat.le_of_ble_eq_true rfl, Nat.le_of_ble_eq_true rfl⟩) ⟨fun a U g mk q => by obtain ⟨q0, qP, qK, qN⟩ := q; exact ⟨q0, qP, va_K.moved (u := U) (U := U.calling g mk a) (Vm.Alike.refl U.vm) qK, jNw_same (u := U) (U := U.calling g mk a) rfl qN⟩, va_recv hK hP (ci := 7) (q0 := 0) rfl rfl, fun U hU hW => ⟨rfl, by rw [hU]; exact hP.sub [0, 1] rfl, va_K.moved hW.alike hK, jNw_warm hW hN⟩⟩ rfl rfl hl.1 rfl (lv_room (Nat.le_of_ble_eq_true rfl)) dX7_tall_16 ⟨Nat.le_of_ble_eq_true rfl, Nat.le_of_ble_eq_true rfl⟩) (fun r_3 er_5 => ?_)
    subst er_5
    refine lv_if_eq (tgt := 41) hx hb dX7_tall_19 (by decide) (fun c_6 => ?_) (fun c_6 => ?_)
    · replace hf := ob_pos c_6 hf
      refine lv_iconst (v := 1) hx hb dX7_tall_41 (by decide) ?_
      cases hf
      exact W.iret hx hb hr (fun t ht hW => ⟨_, rfl, rfl, ht⟩) (fun q h => by cases h) dX7_tall_42
    · replace hf := ob_neg c_6 hf
      refine lv_aload_n hx hb dX7_tall_22 rfl (lv_at hl 0 rfl) ?_
      refine va_get (D := D) (ci := 7) (v := .ref a_way) (C := RX7) (T := TX7) (N := 72) hx hb hts iw_wsX7_tall_X7 hown hK hP 0 rfl rfl 13 (by decide) (hts (.fieldLink RX7 32 "BargeBasinModel" "way" "[I") (List.mem_of_getElem? (i := 2) (by decide +kernel))) (fun _ h9 => h9) rfl dX7_tall_23 ?_
      refine lv_iload_n hx hb dX7_tall_26 rfl (lv_at hl 1 rfl) ?_
      replace hf := ob_grd hf
      obtain ⟨hi_7, hf⟩ := hf
      refine va_iald hx hb hK hP 3 0 rfl rfl hi_7 dX7_tall_27 ?_
      refine lv_iconst (v := 1) hx hb dX7_tall_28 (by decide) ?_
      refine lv_icmp_ne (tgt := 41) hx hb dX7_tall_29 (by decide) (fun c_8 => ?_) (fun c_8 => ?_)
      · replace hf := ob_neg c_8 hf
        refine lv_iconst (v := 1) hx hb dX7_tall_41 (by decide) ?_
        cases hf
        exact W.iret hx hb hr (fun t ht hW => ⟨_, rfl, rfl, ht⟩) (fun q h => by cases h) dX7_tall_42
      · replace hf := ob_pos c_8 hf
        refine lv_aload_n hx hb dX7_tall_32 rfl (lv_at hl 0 rfl) ?_
        refine va_get (D := D) (ci := 7) (v := .ref a_size) (C := RX7) (T := TX7) (N := 72) hx hb hts iw_wsX7_tall_X7 hown hK hP 0 rfl rfl 12 (by decide) (hts (.fieldLink RX7 29 "BargeBasinModel" "size" "[I") (List.mem_of_getElem? (i := 3) (by decide +kernel))) (fun _ h9 => h9) rfl dX7_tall_33 ?_
        refine lv_iload_n hx hb dX7_tall_36 rfl (lv_at hl 1 rfl) ?_
        replace hf := ob_grd hf
        obtain ⟨hi_9, hf⟩ := hf
        refine va_iald hx hb hK hP 2 0 rfl rfl hi_9 dX7_tall_37 ?_
        refine lv_goto (tgt := 42) hx hb dX7_tall_38 (by decide) ?_
        cases hf
        exact W.iret hx hb hr (fun t ht hW => ⟨_, rfl, rfl, ht⟩) (fun q h => by cases h) dX7_tall_42
  · replace hf := ob_pos c_2 hf
    refine lv_iconst (v := 2) hx hb dX7_tall_10 (by decide) ?_
    refine lv_goto (tgt := 42) hx hb dX7_tall_11 (by decide) ?_
    cases hf
    exact W.iret hx hb hr (fun t ht hW => ⟨_, rfl, rfl, ht⟩) (fun q h => by cases h) dX7_tall_42
