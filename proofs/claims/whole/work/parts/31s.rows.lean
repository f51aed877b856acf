theorem iw_wsX7_planned_X7 : ∀ w ∈ wsX70, w ∈ wsX7_planned := fun _ h => List.mem_cons_of_mem _ (List.mem_append_right _ h)
abbrev rm_BargeBasinModel_planned : Room := { frames := 0, cells := 0, slots := 0, locals := 0 }
set_option maxHeartbeats 4000000 in
set_option maxRecDepth 100000 in
theorem c_f_BargeBasinModel_planned (l : Launch) (D : va_G) (cT : Nat → ClassId) (sz : Nat) (a_t a_lineSort a_lineMany a_numbers a_wall a_kind a_at a_size a_way a_gate a_undoBarge a_undoFrom a_undoTo a_redoBarge a_redoFrom a_redoTo a_planBarge a_planWay a_planSteps a_places a_heads a_chain a_depth a_parent a_byBarge a_byWay a_bySteps a_far a_firstEdge a_edge a_edgeBarge a_count a_who a_here a_isKept a_keptWidth a_keptHeight a_keptBarges a_keptWall a_keptKind a_keptAt a_keptSize a_keptWay a_keptGate a_out a_counts a_oldNumbers a_newWall a_asAt a_asGate a_asWay a_asWide a_asTall a_asWall : Nat) (k_status : Int32) (k_thrown : Int32) (k_has : Int32) (k_width : Int32) (k_height : Int32) (k_barges : Int32) (k_undoMany : Int32) (k_redoMany : Int32) (k_whyStep : Int32) (k_whyWhat : Int32) (k_whyWho : Int32) (k_hasPlan : Int32) (k_planMany : Int32) (k_stands : Int32) (k_edges : Int32) (k_outs : Int32) (k_seed : Int32) (k_asWidth : Int32) (k_asHeight : Int32) (k_planBarge : Nat → Int32) (k_planWay : Nat → Int32) (k_planSteps : Nat → Int32) (v1 : Int32) (v2 : Int32) (r0 : Int32) (k_thrown' : Int32) (hf : f_BargeBasinModel_planned v1 v2 k_thrown k_hasPlan k_planMany k_planBarge k_planWay k_planSteps = some (r0, k_thrown')) : Met l yX7_planned wsX7_planned rm_BargeBasinModel_planned (va_Pc [.ref a_t, .int v1, .int v2] (fun U => U.heap.size = sz ∧ va_P D vwCl [(a_t, .inr (7, [.int k_status, .int k_thrown, .int k_has, .int k_width, .int k_height, .ref a_lineSort, .ref a_lineMany, .ref a_numbers, .ref a_wall, .int k_barges, .ref a_kind, .ref a_at, .ref a_size, .ref a_way, .ref a_gate, .int k_undoMany, .int k_redoMany, .ref a_undoBarge, .ref a_undoFrom, .ref a_undoTo, .ref a_redoBarge, .ref a_redoFrom, .ref a_redoTo, .int k_whyStep, .int k_whyWhat, .int k_whyWho, .int k_hasPlan, .int k_planMany, .ref a_planBarge, .ref a_planWay, .ref a_planSteps, .int k_stands, .ref a_places, .ref a_heads, .ref a_chain, .ref a_depth, .ref a_parent, .ref a_byBarge, .ref a_byWay, .ref a_bySteps, .ref a_far, .ref a_firstEdge, .ref a_edge, .ref a_edgeBarge, .int k_edges, .ref a_count, .ref a_who, .ref a_here, .ref a_isKept, .ref a_keptWidth, .ref a_keptHeight, .ref a_keptBarges, .ref a_keptWall, .ref a_keptKind, .ref a_keptAt, .ref a_keptSize, .ref a_keptWay, .ref a_keptGate, .ref a_out, .int k_outs, .ref a_counts, .ref a_oldNumbers, .int k_seed, .ref a_newWall, .int k_asWidth, .int k_asHeight, .ref a_asAt, .ref a_asGate, .ref a_asWay, .ref a_asWide, .ref a_asTall, .ref a_asWall])), (a_planBarge, .inl (cT 0, 6000, .inl k_planBarge)), (a_planWay, .inl (cT 0, 6000, .inl k_planWay)), (a_planSteps, .inl (cT 0, 6000, .inl k_planSteps))] U.heap ∧ va_K D vwCl (jT cT) U ∧ jNw U ∧ va_D (fun _ => True) [(a_t, .inr (7, [.int k_status, .int k_thrown, .int k_has, .int k_width, .int k_height, .ref a_lineSort, .ref a_lineMany, .ref a_numbers, .ref a_wall, .int k_barges, .ref a_kind, .ref a_at, .ref a_size, .ref a_way, .ref a_gate, .int k_undoMany, .int k_redoMany, .ref a_undoBarge, .ref a_undoFrom, .ref a_undoTo, .ref a_redoBarge, .ref a_redoFrom, .ref a_redoTo, .int k_whyStep, .int k_whyWhat, .int k_whyWho, .int k_hasPlan, .int k_planMany, .ref a_planBarge, .ref a_planWay, .ref a_planSteps, .int k_stands, .ref a_places, .ref a_heads, .ref a_chain, .ref a_depth, .ref a_parent, .ref a_byBarge, .ref a_byWay, .ref a_bySteps, .ref a_far, .ref a_firstEdge, .ref a_edge, .ref a_edgeBarge, .int k_edges, .ref a_count, .ref a_who, .ref a_here, .ref a_isKept, .ref a_keptWidth, .ref a_keptHeight, .ref a_keptBarges, .ref a_keptWall, .ref a_keptKind, .ref a_keptAt, .ref a_keptSize, .ref a_keptWay, .ref a_keptGate, .ref a_out, .int k_outs, .ref a_counts, .ref a_oldNumbers, .int k_seed, .ref a_newWall, .int k_asWidth, .int k_asHeight, .ref a_asAt, .ref a_asGate, .ref a_asWay, .ref a_asWide, .ref a_asTall, .ref a_asWall])), (a_planBarge, .inl (cT 0, 6000, .inl k_planBarge)), (a_planWay, .inl (cT 0, 6000, .inl k_planWay)), (a_planSteps, .inl (cT 0, 6000, .inl k_planSteps))])) (va_Qi (fun r (_ : Unit) => r = r0) (fun (_ : Unit) t => va_P D vwCl [(a_t, .inr (7, [.int k_status, .int k_thrown', .int k_has, .int k_width, .int k_height, .ref a_lineSort, .ref a_lineMany, .ref a_numbers, .ref a_wall, .int k_barges, .ref a_kind, .ref a_at, .ref a_size, .ref a_way, .ref a_gate, .int k_undoMany, .int k_redoMany, .ref a_undoBarge, .ref a_undoFrom, .ref a_undoTo, .ref a_redoBarge, .ref a_redoFrom, .ref a_redoTo, .int k_whyStep, .int k_whyWhat, .int k_whyWho, .int k_hasPlan, .int k_planMany, .ref a_planBarge, .ref a_planWay, .ref a_planSteps, .int k_stands, .ref a_places, .ref a_heads, .ref a_chain, .ref a_depth, .ref a_parent, .ref a_byBarge, .ref a_byWay, .ref a_bySteps, .ref a_far, .ref a_firstEdge, .ref a_edge, .ref a_edgeBarge, .int k_edges, .ref a_count, .ref a_who, .ref a_here, .ref a_isKept, .ref a_keptWidth, .ref a_keptHeight, .ref a_keptBarges, .ref a_keptWall, .ref a_keptKind, .ref a_keptAt, .ref a_keptSize, .ref a_keptWay, .ref a_keptGate, .ref a_out, .int k_outs, .ref a_counts, .ref a_oldNumbers, .int k_seed, .ref a_newWall, .int k_asWidth, .int k_asHeight, .ref a_asAt, .ref a_asGate, .ref a_asWay, .ref a_asWide, .ref a_asTall, .ref a_asWall])), (a_planBarge, .inl (cT 0, 6000, .inl k_planBarge)), (a_planWay, .inl (cT 0, 6000, .inl k_planWay)), (a_planSteps, .inl (cT 0, 6000, .inl k_planSteps))] t.heap ∧ va_K D vwCl (jT cT) t ∧ va_D (va_A [(a_t, .inr (7, [.int k_status, .int k_thrown, .int k_has, .int k_width, .int k_height, .ref a_lineSort, .ref a_lineMany, .ref a_numbers, .ref a_wall, .int k_barges, .ref a_kind, .ref a_at, .ref a_size, .ref a_way, .ref a_gate, .int k_undoMany, .int k_redoMany, .ref a_undoBarge, .ref a_undoFrom, .ref a_undoTo, .ref a_redoBarge, .ref a_redoFrom, .ref a_redoTo, .int k_whyStep, .int k_whyWhat, .int k_whyWho, .int k_hasPlan, .int k_planMany, .ref a_planBarge, .ref a_planWay, .ref a_planSteps, .int k_stands, .ref a_places, .ref a_heads, .ref a_chain, .ref a_depth, .ref a_parent, .ref a_byBarge, .ref a_byWay, .ref a_bySteps, .ref a_far, .ref a_firstEdge, .ref a_edge, .ref a_edgeBarge, .int k_edges, .ref a_count, .ref a_who, .ref a_here, .ref a_isKept, .ref a_keptWidth, .ref a_keptHeight, .ref a_keptBarges, .ref a_keptWall, .ref a_keptKind, .ref a_keptAt, .ref a_keptSize, .ref a_keptWay, .ref a_keptGate, .ref a_out, .int k_outs, .ref a_counts, .ref a_oldNumbers, .int k_seed, .ref a_newWall, .int k_asWidth, .int k_asHeight, .ref a_asAt, .ref a_asGate, .ref a_asWay, .ref a_asWide, .ref a_asTall, .ref a_asWall])), (a_planBarge, .inl (cT 0, 6000, .inl k_planBarge)), (a_planWay, .inl (cT 0, 6000, .inl k_planWay)), (a_planSteps, .inl (cT 0, 6000, .inl k_planSteps))] sz) [(a_t, .inr (7, [.int k_status, .int k_thrown', .int k_has, .int k_width, .int k_height, .ref a_lineSort, .ref a_lineMany, .ref a_numbers, .ref a_wall, .int k_barges, .ref a_kind, .ref a_at, .ref a_size, .ref a_way, .ref a_gate, .int k_undoMany, .int k_redoMany, .ref a_undoBarge, .ref a_undoFrom, .ref a_undoTo, .ref a_redoBarge, .ref a_redoFrom, .ref a_redoTo, .int k_whyStep, .int k_whyWhat, .int k_whyWho, .int k_hasPlan, .int k_planMany, .ref a_planBarge, .ref a_planWay, .ref a_planSteps, .int k_stands, .ref a_places, .ref a_heads, .ref a_chain, .ref a_depth, .ref a_parent, .ref a_byBarge, .ref a_byWay, .ref a_bySteps, .ref a_far, .ref a_firstEdge, .ref a_edge, .ref a_edgeBarge, .int k_edges, .ref a_count, .ref a_who, .ref a_here, .ref a_isKept, .ref a_keptWidth, .ref a_keptHeight, .ref a_keptBarges, .ref a_keptWall, .ref a_keptKind, .ref a_keptAt, .ref a_keptSize, .ref a_keptWay, .ref a_keptGate, .ref a_out, .int k_outs, .ref a_counts, .ref a_oldNumbers, .int k_seed, .ref a_newWall, .int k_asWidth, .int k_asHeight, .ref a_asAt, .ref a_asGate, .ref a_asWay, .ref a_asWide, .ref a_asTall, .ref a_asWall])), (a_planBarge, .inl (cT 0, 6000, .inl k_planBarge)), (a_planWay, .inl (cT 0, 6000, .inl k_planWay)), (a_planSteps, .inl (cT 0, 6000, .inl k_planSteps))]) (va_A [(a_t, .inr (7, [.int k_status, .int k_thrown, .int k_has, .int k_width, .int k_height, .ref a_lineSort, .ref a_lineMany, .ref a_numbers, .ref a_wall, .int k_barges, .ref a_kind, .ref a_at, .ref a_size, .ref a_way, .ref a_gate, .int k_undoMany, .int k_redoMany, .ref a_undoBarge, .ref a_undoFrom, .ref a_undoTo, .ref a_redoBarge, .ref a_redoFrom, .ref a_redoTo, .int k_whyStep, .int k_whyWhat, .int k_whyWho, .int k_hasPlan, .int k_planMany, .ref a_planBarge, .ref a_planWay, .ref a_planSteps, .int k_stands, .ref a_places, .ref a_heads, .ref a_chain, .ref a_depth, .ref a_parent, .ref a_byBarge, .ref a_byWay, .ref a_bySteps, .ref a_far, .ref a_firstEdge, .ref a_edge, .ref a_edgeBarge, .int k_edges, .ref a_count, .ref a_who, .ref a_here, .ref a_isKept, .ref a_keptWidth, .ref a_keptHeight, .ref a_keptBarges, .ref a_keptWall, .ref a_keptKind, .ref a_keptAt, .ref a_keptSize, .ref a_keptWay, .ref a_keptGate, .ref a_out, .int k_outs, .ref a_counts, .ref a_oldNumbers, .int k_seed, .ref a_newWall, .int k_asWidth, .int k_asHeight, .ref a_asAt, .ref a_asGate, .ref a_asWay, .ref a_asWide, .ref a_asTall, .ref a_asWall])), (a_planBarge, .inl (cT 0, 6000, .inl k_planBarge)), (a_planWay, .inl (cT 0, 6000, .inl k_planWay)), (a_planSteps, .inl (cT 0, 6000, .inl k_planSteps))] sz)) 0 0 (va_A [(a_t, .inr (7, [.int k_status, .int k_thrown, .int k_has, .int k_width, .int k_height, .ref a_lineSort, .ref a_lineMany, .ref a_numbers, .ref a_wall, .int k_barges, .ref a_kind, .ref a_at, .ref a_size, .ref a_way, .ref a_gate, .int k_undoMany, .int k_redoMany, .ref a_undoBarge, .ref a_undoFrom, .ref a_undoTo, .ref a_redoBarge, .ref a_redoFrom, .ref a_redoTo, .int k_whyStep, .int k_whyWhat, .int k_whyWho, .int k_hasPlan, .int k_planMany, .ref a_planBarge, .ref a_planWay, .ref a_planSteps, .int k_stands, .ref a_places, .ref a_heads, .ref a_chain, .ref a_depth, .ref a_parent, .ref a_byBarge, .ref a_byWay, .ref a_bySteps, .ref a_far, .ref a_firstEdge, .ref a_edge, .ref a_edgeBarge, .int k_edges, .ref a_count, .ref a_who, .ref a_here, .ref a_isKept, .ref a_keptWidth, .ref a_keptHeight, .ref a_keptBarges, .ref a_keptWall, .ref a_keptKind, .ref a_keptAt, .ref a_keptSize, .ref a_keptWay, .ref a_keptGate, .ref a_out, .int k_outs, .ref a_counts, .ref a_oldNumbers, .int k_seed, .ref a_newWall, .int k_asWidth, .int k_asHeight, .ref a_asAt, .ref a_asGate, .ref a_asWay, .ref a_asWide, .ref a_asTall, .ref a_asWall])), (a_planBarge, .inl (cT 0, 6000, .inl k_planBarge)), (a_planWay, .inl (cT 0, 6000, .inl k_planWay)), (a_planSteps, .inl (cT 0, 6000, .inl k_planSteps))] sz) := by
  refine Met.ofW (cc := cX7_planned) (maxL := 3) (ret := (some .int)) (by decide) rfl ?_
  intro p e s m args below meth c s₁ B hml hv
  obtain ⟨rfl, hsz, hP, hK, hN, hD0⟩ := hv
  have hx := B.exec
  have hb := B.bytes
  have hr := B.returns
  have hts := atoms_spec (ws := wsX7_planned) B.pre
  have hown : s.vm.findClass RX7 = some m.cls := findClass_of_methodNamed B.named
  have hlocks := B.notSynchronized
  subst hsz
  have hD := hD0.self (sz := s.heap.size)
  clear hD0
  generalize hAe : va_A [(a_t, .inr (7, [.int k_status, .int k_thrown, .int k_has, .int k_width, .int k_height, .ref a_lineSort, .ref a_lineMany, .ref a_numbers, .ref a_wall, .int k_barges, .ref a_kind, .ref a_at, .ref a_size, .ref a_way, .ref a_gate, .int k_undoMany, .int k_redoMany, .ref a_undoBarge, .ref a_undoFrom, .ref a_undoTo, .ref a_redoBarge, .ref a_redoFrom, .ref a_redoTo, .int k_whyStep, .int k_whyWhat, .int k_whyWho, .int k_hasPlan, .int k_planMany, .ref a_planBarge, .ref a_planWay, .ref a_planSteps, .int k_stands, .ref a_places, .ref a_heads, .ref a_chain, .ref a_depth, .ref a_parent, .ref a_byBarge, .ref a_byWay, .ref a_bySteps, .ref a_far, .ref a_firstEdge, .ref a_edge, .ref a_edgeBarge, .int k_edges, .ref a_count, .ref a_who, .ref a_here, .ref a_isKept, .ref a_keptWidth, .ref a_keptHeight, .ref a_keptBarges, .ref a_keptWall, .ref a_keptKind, .ref a_keptAt, .ref a_keptSize, .ref a_keptWay, .ref a_keptGate, .ref a_out, .int k_outs, .ref a_counts, .ref a_oldNumbers, .int k_seed, .ref a_newWall, .int k_asWidth, .int k_asHeight, .ref a_asAt, .ref a_asGate, .ref a_asWay, .ref a_asWide, .ref a_asTall, .ref a_asWall])), (a_planBarge, .inl (cT 0, 6000, .inl k_planBarge)), (a_planWay, .inl (cT 0, 6000, .inl k_planWay)), (a_planSteps, .inl (cT 0, 6000, .inl k_planSteps))] s.heap.size = A at hD ⊢
  have hA : ∀ q : Nat, s.heap.size ≤ q → A q := fun q h => by rw [← hAe]; exact Or.inr h
  clear hAe
  have hl := lv_entry ([.ref a_t, .int v1, .int v2]) (n := 3) (Nat.le_of_ble_eq_true rfl)
  rw [lg_entry_eq]
  generalize (lg_sl ([.ref a_t, .int v1, .int v2]) ++ List.replicate (3 - (lg_sl ([.ref a_t, .int v1, .int v2])).length) Slot.unset).toArray = ls at hl ⊢
  have hl : lv_has ls 3 [(0, .ref a_t), (1, .int v1), (2, .int v2)] := hl
  refine j_start (A := A) hP (fun H locs hP hS => ?_)
  unfold f_BargeBasinModel_planned at hf
  refine lv_aload_n hx hb dX7_planned_0 rfl (lv_at hl 0 rfl) ?_
  refine lv_iconst (v := 0) hx hb dX7_planned_1 (by decide) ?_
  refine va_put (D := D) (ci := 7) (v := .int ((0 : Int32))) (ty := .int) (C := RX7) (T := TX7) (N := 72) hx hb hts iw_wsX7_planned_X7 tyX7 tyX7_ok nmX7 hown hK hP hD hS 0 rfl rfl 1 (by decide) (hts (.fieldLink RX7 184 "BargeBasinModel" "thrown" "I") (List.mem_of_getElem? (i := 1) (by decide +kernel))) (fun _ h9 => h9) rfl (by decide +kernel) rfl rfl (Nat.le_of_ble_eq_true rfl) dX7_planned_2 (fun H locs hP hD hS => ?_)
  replace hP : va_P D vwCl [(a_t, .inr (7, [.int k_status, .int ((0 : Int32)), .int k_has, .int k_width, .int k_height, .ref a_lineSort, .ref a_lineMany, .ref a_numbers, .ref a_wall, .int k_barges, .ref a_kind, .ref a_at, .ref a_size, .ref a_way, .ref a_gate, .int k_undoMany, .int k_redoMany, .ref a_undoBarge, .ref a_undoFrom, .ref a_undoTo, .ref a_redoBarge, .ref a_redoFrom, .ref a_redoTo, .int k_whyStep, .int k_whyWhat, .int k_whyWho, .int k_hasPlan, .int k_planMany, .ref a_planBarge, .ref a_planWay, .ref a_planSteps, .int k_stands, .ref a_places, .ref a_heads, .ref a_chain, .ref a_depth, .ref a_parent, .ref a_byBarge, .ref a_byWay, .ref a_bySteps, .ref a_far, .ref a_firstEdge, .ref a_edge, .ref a_edgeBarge, .int k_edges, .ref a_count, .ref a_who, .ref a_here, .ref a_isKept, .ref a_keptWidth, .ref a_keptHeight, .ref a_keptBarges, .ref a_keptWall, .ref a_keptKind, .ref a_keptAt, .ref a_keptSize, .ref a_keptWay, .ref a_keptGate, .ref a_out, .int k_outs, .ref a_counts, .ref a_oldNumbers, .int k_seed, .ref a_newWall, .int k_asWidth, .int k_asHeight, .ref a_asAt, .ref a_asGate, .ref a_asWay, .ref a_asWide, .ref a_asTall, .ref a_asWall])), (a_planBarge, .inl (cT 0, 6000, .inl k_planBarge)), (a_planWay, .inl (cT 0, 6000, .inl k_planWay)), (a_planSteps, .inl (cT 0, 6000, .inl k_planSteps))] H := hP
  replace hD : va_D A [(a_t, .inr (7, [.int k_status, .int ((0 : Int32)), .int k_has, .int k_width, .int k_height, .ref a_lineSort, .ref a_lineMany, .ref a_numbers, .ref a_wall, .int k_barges, .ref a_kind, .ref a_at, .ref a_size, .ref a_way, .ref a_gate, .int k_undoMany, .int k_redoMany, .ref a_undoBarge, .ref a_undoFrom, .ref a_undoTo, .ref a_redoBarge, .ref a_redoFrom, .ref a_redoTo, .int k_whyStep, .int k_whyWhat, .int k_whyWho, .int k_hasPlan, .int k_planMany, .ref a_planBarge, .ref a_planWay, .ref a_planSteps, .int k_stands, .ref a_places, .ref a_heads, .ref a_chain, .ref a_depth, .ref a_parent, .ref a_byBarge, .ref a_byWay, .ref a_bySteps, .ref a_far, .ref a_firstEdge, .ref a_edge, .ref a_edgeBarge, .int k_edges, .ref a_count, .ref a_who, .ref a_here, .ref a_isKept, .ref a_keptWidth, .ref a_keptHeight, .ref a_keptBarges, .ref a_keptWall, .ref a_keptKind, .ref a_keptAt, .ref a_keptSize, .ref a_keptWay, .ref a_keptGate, .ref a_out, .int k_outs, .ref a_counts, .ref a_oldNumbers, .int k_seed, .ref a_newWall, .int k_asWidth, .int k_asHeight, .ref a_asAt, .ref a_asGate, .ref a_asWay, .ref a_asWide, .ref a_asTall, .ref a_asWall])), (a_planBarge, .inl (cT 0, 6000, .inl k_planBarge)), (a_planWay, .inl (cT 0, 6000, .inl k_planWay)), (a_planSteps, .inl (cT 0, 6000, .inl k_planSteps))] := hD
  refine lv_aload_n hx hb dX7_planned_5 rfl (lv_at hl 0 rfl) ?_
  refine va_get (D := D) (ci := 7) (v := .int k_hasPlan) (C := RX7) (T := TX7) (N := 72) hx hb hts iw_wsX7_planned_X7 hown hK hP 0 rfl rfl 26 (by decide) (hts (.fieldLink RX7 296 "BargeBasinModel" "hasPlan" "Z") (List.mem_of_getElem? (i := 2) (by decide +kernel))) (fun _ h9 => h9) rfl dX7_planned_6 ?_
  refine lv_if_eq (tgt := 24) hx hb dX7_planned_9 (by decide) (fun c_1 => ?_) (fun c_1 => ?_)
  · replace hf := ob_pos c_1 hf
    refine lv_iconst (v := -1) hx hb dX7_planned_24 (by decide) ?_
    replace hf := ob_t2 hf
    obtain ⟨ee0, ee1⟩ := hf
    subst ee0
    subst ee1
    exact W.iret hx hb hr (fun t ht hW => ⟨⟨_, (), rfl, rfl, by rw [ht]; exact hP, va_K.moved hW.alike hK, hD⟩, hS.F ht⟩) hS.2.2 dX7_planned_25
  · replace hf := ob_neg c_1 hf
    refine lv_iload_n hx hb dX7_planned_12 rfl (lv_at hl 1 rfl) ?_
    refine lv_if_lt (tgt := 24) hx hb dX7_planned_13 (by decide) (fun c_2 => ?_) (fun c_2 => ?_)
    · replace hf := ob_pos c_2 hf
      refine lv_iconst (v := -1) hx hb dX7_planned_24 (by decide) ?_
      replace hf := ob_t2 hf
      obtain ⟨ee0, ee1⟩ := hf
      subst ee0
      subst ee1
      exact W.iret hx hb hr (fun t ht hW => ⟨⟨_, (), rfl, rfl, by rw [ht]; exact hP, va_K.moved hW.alike hK, hD⟩, hS.F ht⟩) hS.2.2 dX7_planned_25
    · replace hf := ob_neg c_2 hf
      refine lv_iload_n hx hb dX7_planned_16 rfl (lv_at hl 1 rfl) ?_
      refine lv_aload_n hx hb dX7_planned_17 rfl (lv_at hl 0 rfl) ?_
      refine va_get (D := D) (ci := 7) (v := .int k_planMany) (C := RX7) (T := TX7) (N := 72) hx hb hts iw_wsX7_planned_X7 hown hK hP 0 rfl rfl 27 (by decide) (hts (.fieldLink RX7 300 "BargeBasinModel" "planMany" "I") (List.mem_of_getElem? (i := 3) (by decide +kernel))) (fun _ h9 => h9) rfl dX7_planned_18 ?_
      refine lv_icmp_lt (tgt := 26) hx hb dX7_planned_21 (by decide) (fun c_3 => ?_) (fun c_3 => ?_)
      · replace hf := ob_pos c_3 hf
        refine lv_iload_n hx hb dX7_planned_26 rfl (lv_at hl 2 rfl) ?_
        refine lv_if_ne (tgt := 39) hx hb dX7_planned_27 (by decide) (fun c_4 => ?_) (fun c_4 => ?_)
        · replace hf := ob_neg c_4 hf
          refine lv_iload_n hx hb dX7_planned_39 rfl (lv_at hl 2 rfl) ?_
          refine lv_iconst (v := 1) hx hb dX7_planned_40 (by decide) ?_
          refine lv_icmp_ne (tgt := 53) hx hb dX7_planned_41 (by decide) (fun c_5 => ?_) (fun c_5 => ?_)
          · replace hf := ob_neg c_5 hf
            refine lv_iload_n hx hb dX7_planned_53 rfl (lv_at hl 2 rfl) ?_
            refine lv_iconst (v := 2) hx hb dX7_planned_54 (by decide) ?_
            refine lv_icmp_ne (tgt := 67) hx hb dX7_planned_55 (by decide) (fun c_6 => ?_) (fun c_6 => ?_)
            · replace hf := ob_neg c_6 hf
              refine lv_iconst (v := -1) hx hb dX7_planned_67 (by decide) ?_
              replace hf := ob_t2 hf
              obtain ⟨ee0, ee1⟩ := hf
              subst ee0
              subst ee1
              exact W.iret hx hb hr (fun t ht hW => ⟨⟨_, (), rfl, rfl, by rw [ht]; exact hP, va_K.moved hW.alike hK, hD⟩, hS.F ht⟩) hS.2.2 dX7_planned_68
            · replace hf := ob_pos c_6 hf
              refine lv_aload_n hx hb dX7_planned_58 rfl (lv_at hl 0 rfl) ?_
              refine va_get (D := D) (ci := 7) (v := .ref a_planSteps) (C := RX7) (T := TX7) (N := 72) hx hb hts iw_wsX7_planned_X7 hown hK hP 0 rfl rfl 30 (by decide) (hts (.fieldLink RX7 72 "BargeBasinModel" "planSteps" "[I") (List.mem_of_getElem? (i := 6) (by decide +kernel))) (fun _ h9 => h9) rfl dX7_planned_59 ?_
              refine lv_iload_n hx hb dX7_planned_62 rfl (lv_at hl 1 rfl) ?_
              replace hf := ob_grd hf
              obtain ⟨hi_7, hf⟩ := hf
              refine va_iald hx hb hK hP 3 0 rfl rfl hi_7 dX7_planned_63 ?_
              refine lv_goto (tgt := 68) hx hb dX7_planned_64 (by decide) ?_
              replace hf := ob_t2 hf
              obtain ⟨ee0, ee1⟩ := hf
              subst ee0
              subst ee1
              exact W.iret hx hb hr (fun t ht hW => ⟨⟨_, (), rfl, rfl, by rw [ht]; exact hP, va_K.moved hW.alike hK, hD⟩, hS.F ht⟩) hS.2.2 dX7_planned_68
          · replace hf := ob_pos c_5 hf
            refine lv_aload_n hx hb dX7_planned_44 rfl (lv_at hl 0 rfl) ?_
            refine va_get (D := D) (ci := 7) (v := .ref a_planWay) (C := RX7) (T := TX7) (N := 72) hx hb hts iw_wsX7_planned_X7 hown hK hP 0 rfl rfl 29 (by decide) (hts (.fieldLink RX7 69 "BargeBasinModel" "planWay" "[I") (List.mem_of_getElem? (i := 5) (by decide +kernel))) (fun _ h9 => h9) rfl dX7_planned_45 ?_
            refine lv_iload_n hx hb dX7_planned_48 rfl (lv_at hl 1 rfl) ?_
            replace hf := ob_grd hf
            obtain ⟨hi_8, hf⟩ := hf
            refine va_iald hx hb hK hP 2 0 rfl rfl hi_8 dX7_planned_49 ?_
            refine lv_goto (tgt := 68) hx hb dX7_planned_50 (by decide) ?_
            replace hf := ob_t2 hf
            obtain ⟨ee0, ee1⟩ := hf
            subst ee0
            subst ee1
            exact W.iret hx hb hr (fun t ht hW => ⟨⟨_, (), rfl, rfl, by rw [ht]; exact hP, va_K.moved hW.alike hK, hD⟩, hS.F ht⟩) hS.2.2 dX7_planned_68
        · replace hf := ob_pos c_4 hf
          refine lv_aload_n hx hb dX7_planned_30 rfl (lv_at hl 0 rfl) ?_
          refine va_get (D := D) (ci := 7) (v := .ref a_planBarge) (C := RX7) (T := TX7) (N := 72) hx hb hts iw_wsX7_planned_X7 hown hK hP 0 rfl rfl 28 (by decide) (hts (.fieldLink RX7 66 "BargeBasinModel" "planBarge" "[I") (List.mem_of_getElem? (i := 4) (by decide +kernel))) (fun _ h9 => h9) rfl dX7_planned_31 ?_
          refine lv_iload_n hx hb dX7_planned_34 rfl (lv_at hl 1 rfl) ?_
          replace hf := ob_grd hf
          obtain ⟨hi_9, hf⟩ := hf
          refine va_iald hx hb hK hP 1 0 rfl rfl hi_9 dX7_planned_35 ?_
          refine lv_goto (tgt := 68) hx hb dX7_planned_36 (by decide) ?_
          replace hf := ob_t2 hf
          obtain ⟨ee0, ee1⟩ := hf
          subst ee0
          subst ee1
          exact W.iret hx hb hr (fun t ht hW => ⟨⟨_, (), rfl, rfl, by rw [ht]; exact hP, va_K.moved hW.alike hK, hD⟩, hS.F ht⟩) hS.2.2 dX7_planned_68
      · replace hf := ob_neg c_3 hf
        refine lv_iconst (v := -1) hx hb dX7_planned_24 (by decide) ?_
        replace hf := ob_t2 hf
        obtain ⟨ee0, ee1⟩ := hf
        subst ee0
        subst ee1
        exact W.iret hx hb hr (fun t ht hW => ⟨⟨_, (), rfl, rfl, by rw [ht]; exact hP, va_K.moved hW.alike hK, hD⟩, hS.F ht⟩) hS.2.2 dX7_planned_25
abbrev rm_BargeBasinModel_plus : Room := { frames := 0, cells := 0, slots := 0, locals := 0 }
set_option maxHeartbeats 4000000 in
set_option maxRecDepth 100000 in
theorem c_f_BargeBasinModel_plus (l : Launch) (D : va_G) (cT : Nat → ClassId) (v0 : Int64) (v2 : Int64) (r0 : Int64) (hf : f_BargeBasinModel_plus v0 v2 = some r0) : Met l yX7_plus wsX7_plus rm_BargeBasinModel_plus (va_Pc [.long v0, .long v2] (fun U => True)) (vp_Sl (fun r => r = r0)) 0 0 (fun _ => False) := by
  refine Met.ofW (cc := cX7_plus) (maxL := 4) (ret := (some .long)) (by decide) rfl ?_
  intro p e s m args below meth c s₁ B hml hv
  obtain ⟨rfl, -⟩ := hv
  have hx := B.exec
  have hb := B.bytes
  have hr := B.returns
  have hts := atoms_spec (ws := wsX7_plus) B.pre
  have hown : s.vm.findClass RX7 = some m.cls := findClass_of_methodNamed B.named
  have hlocks := B.notSynchronized
  have hl := lv_entry ([.long v0, .long v2]) (n := 4) (Nat.le_of_ble_eq_true rfl)
  rw [lg_entry_eq]
  generalize (lg_sl ([.long v0, .long v2]) ++ List.replicate (4 - (lg_sl ([.long v0, .long v2])).length) Slot.unset).toArray = ls at hl ⊢
  have hl : lv_has ls 4 [(0, .long v0), (2, .long v2)] := hl
  unfold f_BargeBasinModel_plus at hf
  refine lv_lload_n hx hb dX7_plus_0 rfl (lv_at hl 0 rfl) ?_
  refine lv_lload_n hx hb dX7_plus_1 rfl (lv_at hl 1 rfl) ?_
  refine lv_ladd hx hb dX7_plus_2 ?_
  refine lv_ldc2 hx hb hown (hts (.constantLong RX7 318 (4611686018427387904)) (List.mem_of_getElem? (i := 1) (by decide +kernel))) dX7_plus_3 ?_
  refine W.lcmp hx hb dX7_plus_6 ?_
  refine lv_if_ge (tgt := 18) hx hb dX7_plus_7 (by decide) (fun c_1 => ?_) (fun c_1 => ?_)
  · replace hf := ob_pos c_1 hf
    refine lv_ldc2 hx hb hown (hts (.constantLong RX7 318 (4611686018427387904)) (List.mem_of_getElem? (i := 1) (by decide +kernel))) dX7_plus_18 ?_
    refine lv_goto (tgt := 27) hx hb dX7_plus_21 (by decide) ?_
    cases hf
    exact W.lret hx hb hr (fun t ht hW => ⟨_, rfl, rfl, ht⟩) (fun q h => by cases h) dX7_plus_27
  · replace hf := ob_neg c_1 hf
    refine lv_lload_n hx hb dX7_plus_10 rfl (lv_at hl 0 rfl) ?_
    refine lv_lload_n hx hb dX7_plus_11 rfl (lv_at hl 1 rfl) ?_
    refine lv_ladd hx hb dX7_plus_12 ?_
    refine lv_lconst (v := 0) hx hb dX7_plus_13 (by decide) ?_
    refine W.lcmp hx hb dX7_plus_14 ?_
    refine lv_if_ge (tgt := 24) hx hb dX7_plus_15 (by decide) (fun c_2 => ?_) (fun c_2 => ?_)
    · replace hf := ob_pos c_2 hf
      refine lv_lload_n hx hb dX7_plus_24 rfl (lv_at hl 0 rfl) ?_
      refine lv_lload_n hx hb dX7_plus_25 rfl (lv_at hl 1 rfl) ?_
      refine lv_ladd hx hb dX7_plus_26 ?_
      cases hf
      exact W.lret hx hb hr (fun t ht hW => ⟨_, rfl, rfl, ht⟩) (fun q h => by cases h) dX7_plus_27
    · replace hf := ob_neg c_2 hf
      refine lv_ldc2 hx hb hown (hts (.constantLong RX7 318 (4611686018427387904)) (List.mem_of_getElem? (i := 1) (by decide +kernel))) dX7_plus_18 ?_
      refine lv_goto (tgt := 27) hx hb dX7_plus_21 (by decide) ?_
      cases hf
      exact W.lret hx hb hr (fun t ht hW => ⟨_, rfl, rfl, ht⟩) (fun q h => by cases h) dX7_plus_27
