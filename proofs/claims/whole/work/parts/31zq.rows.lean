theorem iw_wsX7_isBarge_X7 : ∀ w ∈ wsX70, w ∈ wsX7_isBarge := fun _ h => List.mem_cons_of_mem _ (List.mem_append_right _ h)
abbrev rm_BargeBasinModel_isBarge : Room := { frames := 0, cells := 0, slots := 0, locals := 0 }
set_option maxHeartbeats 4000000 in
set_option maxRecDepth 100000 in
theorem c_f_BargeBasinModel_isBarge (l : Launch) (D : va_G) (cT : Nat → ClassId) (a_t a_lineSort a_lineMany a_numbers a_wall a_kind a_at a_size a_way a_gate a_undoBarge a_undoFrom a_undoTo a_redoBarge a_redoFrom a_redoTo a_planBarge a_planWay a_planSteps a_places a_heads a_chain a_depth a_parent a_byBarge a_byWay a_bySteps a_far a_firstEdge a_edge a_edgeBarge a_count a_who a_here a_isKept a_keptWidth a_keptHeight a_keptBarges a_keptWall a_keptKind a_keptAt a_keptSize a_keptWay a_keptGate a_out a_counts a_oldNumbers a_newWall a_asAt a_asGate a_asWay a_asWide a_asTall a_asWall : Nat) (k_status : Int32) (k_thrown : Int32) (k_has : Int32) (k_width : Int32) (k_height : Int32) (k_barges : Int32) (k_undoMany : Int32) (k_redoMany : Int32) (k_whyStep : Int32) (k_whyWhat : Int32) (k_whyWho : Int32) (k_hasPlan : Int32) (k_planMany : Int32) (k_stands : Int32) (k_edges : Int32) (k_outs : Int32) (k_seed : Int32) (k_asWidth : Int32) (k_asHeight : Int32) (v1 : Int32) (r0 : Int32) (hf : f_BargeBasinModel_isBarge v1 k_barges = some r0) : Met l yX7_isBarge wsX7_isBarge rm_BargeBasinModel_isBarge (va_Pc [.ref a_t, .int v1] (fun U => va_P D vwCl [(a_t, .inr (7, [.int k_status, .int k_thrown, .int k_has, .int k_width, .int k_height, .ref a_lineSort, .ref a_lineMany, .ref a_numbers, .ref a_wall, .int k_barges, .ref a_kind, .ref a_at, .ref a_size, .ref a_way, .ref a_gate, .int k_undoMany, .int k_redoMany, .ref a_undoBarge, .ref a_undoFrom, .ref a_undoTo, .ref a_redoBarge, .ref a_redoFrom, .ref a_redoTo, .int k_whyStep, .int k_whyWhat, .int k_whyWho, .int k_hasPlan, .int k_planMany, .ref a_planBarge, .ref a_planWay, .ref a_planSteps, .int k_stands, .ref a_places, .ref a_heads, .ref a_chain, .ref a_depth, .ref a_parent, .ref a_byBarge, .ref a_byWay, .ref a_bySteps, .ref a_far, .ref a_firstEdge, .ref a_edge, .ref a_edgeBarge, .int k_edges, .ref a_count, .ref a_who, .ref a_here, .ref a_isKept, .ref a_keptWidth, .ref a_keptHeight, .ref a_keptBarges, .ref a_keptWall, .ref a_keptKind, .ref a_keptAt, .ref a_keptSize, .ref a_keptWay, .ref a_keptGate, .ref a_out, .int k_outs, .ref a_counts, .ref a_oldNumbers, .int k_seed, .ref a_newWall, .int k_asWidth, .int k_asHeight, .ref a_asAt, .ref a_asGate, .ref a_asWay, .ref a_asWide, .ref a_asTall, .ref a_asWall]))] U.heap ∧ va_K D vwCl (jT cT) U ∧ jNw U)) (vp_Si (fun r => r = r0)) 0 0 (fun _ => False) := by
  refine Met.ofW (cc := cX7_isBarge) (maxL := 2) (ret := (some .boolean)) (by decide) rfl ?_
  intro p e s m args below meth c s₁ B hml hv
  obtain ⟨rfl, hP, hK, hN⟩ := hv
  have hx := B.exec
  have hb := B.bytes
  have hr := B.returns
  have hts := atoms_spec (ws := wsX7_isBarge) B.pre
  have hown : s.vm.findClass RX7 = some m.cls := findClass_of_methodNamed B.named
  have hlocks := B.notSynchronized
  have hl := lv_entry ([.ref a_t, .int v1]) (n := 2) (Nat.le_of_ble_eq_true rfl)
  rw [lg_entry_eq]
  generalize (lg_sl ([.ref a_t, .int v1]) ++ List.replicate (2 - (lg_sl ([.ref a_t, .int v1])).length) Slot.unset).toArray = ls at hl ⊢
  have hl : lv_has ls 2 [(0, .ref a_t), (1, .int v1)] := hl
  unfold f_BargeBasinModel_isBarge at hf
  refine lv_iload_n hx hb dX7_isBarge_0 rfl (lv_at hl 1 rfl) ?_
  refine lv_if_lt (tgt := 16) hx hb dX7_isBarge_1 (by decide) (fun c_1 => ?_) (fun c_1 => ?_)
  · replace hf := ob_pos c_1 hf
    refine lv_iconst (v := 0) hx hb dX7_isBarge_16 (by decide) ?_
    cases hf
    exact W.zret hx hb hr (by decide +kernel) (fun t ht hW => ⟨_, rfl, rfl, ht⟩) (fun q h => by cases h) dX7_isBarge_17
  · replace hf := ob_neg c_1 hf
    refine lv_iload_n hx hb dX7_isBarge_4 rfl (lv_at hl 1 rfl) ?_
    refine lv_aload_n hx hb dX7_isBarge_5 rfl (lv_at hl 0 rfl) ?_
    refine va_get (D := D) (ci := 7) (v := .int k_barges) (C := RX7) (T := TX7) (N := 72) hx hb hts iw_wsX7_isBarge_X7 hown hK hP 0 rfl rfl 9 (by decide) (hts (.fieldLink RX7 216 "BargeBasinModel" "barges" "I") (List.mem_of_getElem? (i := 1) (by decide +kernel))) (fun _ h9 => h9) rfl dX7_isBarge_6 ?_
    refine lv_icmp_ge (tgt := 16) hx hb dX7_isBarge_9 (by decide) (fun c_2 => ?_) (fun c_2 => ?_)
    · replace hf := ob_pos c_2 hf
      refine lv_iconst (v := 0) hx hb dX7_isBarge_16 (by decide) ?_
      cases hf
      exact W.zret hx hb hr (by decide +kernel) (fun t ht hW => ⟨_, rfl, rfl, ht⟩) (fun q h => by cases h) dX7_isBarge_17
    · replace hf := ob_neg c_2 hf
      refine lv_iconst (v := 1) hx hb dX7_isBarge_12 (by decide) ?_
      refine lv_goto (tgt := 17) hx hb dX7_isBarge_13 (by decide) ?_
      cases hf
      exact W.zret hx hb hr (by decide +kernel) (fun t ht hW => ⟨_, rfl, rfl, ht⟩) (fun q h => by cases h) dX7_isBarge_17
