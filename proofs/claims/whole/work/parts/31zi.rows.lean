theorem iw_wsX7_numbered_X7 : ∀ w ∈ wsX70, w ∈ wsX7_numbered := fun _ h => List.mem_cons_of_mem _ (List.mem_append_right _ h)
abbrev rm_BargeBasinModel_numbered : Room := { frames := 1, cells := 0, slots := 0, locals := 21 }
set_option maxHeartbeats 4000000 in
set_option maxRecDepth 100000 in
theorem c_f_BargeBasinModel_numbered (l : Launch) (D : va_G) (cT : Nat → ClassId) (a_t a_lineSort a_lineMany a_numbers a_wall a_kind a_at a_size a_way a_gate a_undoBarge a_undoFrom a_undoTo a_redoBarge a_redoFrom a_redoTo a_planBarge a_planWay a_planSteps a_places a_heads a_chain a_depth a_parent a_byBarge a_byWay a_bySteps a_far a_firstEdge a_edge a_edgeBarge a_count a_who a_here a_isKept a_keptWidth a_keptHeight a_keptBarges a_keptWall a_keptKind a_keptAt a_keptSize a_keptWay a_keptGate a_out a_counts a_oldNumbers a_newWall a_asAt a_asGate a_asWay a_asWide a_asTall a_asWall : Nat) (k_status : Int32) (k_thrown : Int32) (k_has : Int32) (k_width : Int32) (k_height : Int32) (k_barges : Int32) (k_undoMany : Int32) (k_redoMany : Int32) (k_whyStep : Int32) (k_whyWhat : Int32) (k_whyWho : Int32) (k_hasPlan : Int32) (k_planMany : Int32) (k_stands : Int32) (k_edges : Int32) (k_outs : Int32) (k_seed : Int32) (k_asWidth : Int32) (k_asHeight : Int32) (k_lineMany : Nat → Int32) (v1 : Int32) (v2 : Int32) (r0 : Int32) (hf : f_BargeBasinModel_numbered v1 v2 k_has k_height k_lineMany = some r0) : Met l yX7_numbered wsX7_numbered rm_BargeBasinModel_numbered (va_Pc [.ref a_t, .int v1, .int v2] (fun U => va_P D vwCl [(a_t, .inr (7, [.int k_status, .int k_thrown, .int k_has, .int k_width, .int k_height, .ref a_lineSort, .ref a_lineMany, .ref a_numbers, .ref a_wall, .int k_barges, .ref a_kind, .ref a_at, .ref a_size, .ref a_way, .ref a_gate, .int k_undoMany, .int k_redoMany, .ref a_undoBarge, .ref a_undoFrom, .ref a_undoTo, .ref a_redoBarge, .ref a_redoFrom, .ref a_redoTo, .int k_whyStep, .int k_whyWhat, .int k_whyWho, .int k_hasPlan, .int k_planMany, .ref a_planBarge, .ref a_planWay, .ref a_planSteps, .int k_stands, .ref a_places, .ref a_heads, .ref a_chain, .ref a_depth, .ref a_parent, .ref a_byBarge, .ref a_byWay, .ref a_bySteps, .ref a_far, .ref a_firstEdge, .ref a_edge, .ref a_edgeBarge, .int k_edges, .ref a_count, .ref a_who, .ref a_here, .ref a_isKept, .ref a_keptWidth, .ref a_keptHeight, .ref a_keptBarges, .ref a_keptWall, .ref a_keptKind, .ref a_keptAt, .ref a_keptSize, .ref a_keptWay, .ref a_keptGate, .ref a_out, .int k_outs, .ref a_counts, .ref a_oldNumbers, .int k_seed, .ref a_newWall, .int k_asWidth, .int k_asHeight, .ref a_asAt, .ref a_asGate, .ref a_asWay, .ref a_asWide, .ref a_asTall, .ref a_asWall])), (a_lineMany, .inl (cT 0, 8, .inl k_lineMany))] U.heap ∧ va_K D vwCl (jT cT) U ∧ jNw U)) (vp_Si (fun r => r = r0)) 0 0 (fun _ => False) := by
  refine Met.ofW (cc := cX7_numbered) (maxL := 3) (ret := (some .int)) (by decide) rfl ?_
  intro p e s m args below meth c s₁ B hml hv
  obtain ⟨rfl, hP, hK, hN⟩ := hv
  have hx := B.exec
  have hb := B.bytes
  have hr := B.returns
  have hts := atoms_spec (ws := wsX7_numbered) B.pre
  have hown : s.vm.findClass RX7 = some m.cls := findClass_of_methodNamed B.named
  have hlocks := B.notSynchronized
  have hl := lv_entry ([.ref a_t, .int v1, .int v2]) (n := 3) (Nat.le_of_ble_eq_true rfl)
  rw [lg_entry_eq]
  generalize (lg_sl ([.ref a_t, .int v1, .int v2]) ++ List.replicate (3 - (lg_sl ([.ref a_t, .int v1, .int v2])).length) Slot.unset).toArray = ls at hl ⊢
  have hl : lv_has ls 3 [(0, .ref a_t), (1, .int v1), (2, .int v2)] := hl
  unfold f_BargeBasinModel_numbered at hf
  refine lv_aload_n hx hb dX7_numbered_0 rfl (lv_at hl 0 rfl) ?_
  refine va_get (D := D) (ci := 7) (v := .int k_has) (C := RX7) (T := TX7) (N := 72) hx hb hts iw_wsX7_numbered_X7 hown hK hP 0 rfl rfl 2 (by decide) (hts (.fieldLink RX7 303 "BargeBasinModel" "has" "Z") (List.mem_of_getElem? (i := 1) (by decide +kernel))) (fun _ h9 => h9) rfl dX7_numbered_1 ?_
  refine lv_if_ne (tgt := 9) hx hb dX7_numbered_4 (by decide) (fun c_1 => ?_) (fun c_1 => ?_)
  · replace hf := ob_neg c_1 hf
    refine lv_aload_n hx hb dX7_numbered_9 rfl (lv_at hl 0 rfl) ?_
    refine lv_iload_n hx hb dX7_numbered_10 rfl (lv_at hl 1 rfl) ?_
    replace hf := ob_b hf
    obtain ⟨zr_2, hc_3, hf⟩ := hf
    refine vp_callSi (W.runV (As := [.int v1]) (rest := []) ⟨hx, hb, hml, hown, hts⟩ (c_f_BargeBasinModel_isLine l D cT a_t a_lineSort a_lineMany a_numbers a_wall a_kind a_at a_size a_way a_gate a_undoBarge a_undoFrom a_undoTo a_redoBarge a_redoFrom a_redoTo a_planBarge a_planWay a_planSteps a_places a_heads a_chain a_depth a_parent a_byBarge a_byWay a_bySteps a_far a_firstEdge a_edge a_edgeBarge a_count a_who a_here a_isKept a_keptWidth a_keptHeight a_keptBarges a_keptWall a_keptKind a_keptAt a_keptSize a_keptWay a_keptGate a_out a_counts a_oldNumbers a_newWall a_asAt a_asGate a_asWay a_asWide a_asTall a_asWall k_status k_thrown k_has k_width k_height k_barges k_undoMany k_redoMany k_whyStep k_whyWhat k_whyWho k_hasPlan k_planMany k_stands k_edges k_outs k_seed k_asWidth k_asHeight v1 _ hc_3) (cwV 1 hts gX7_numbered_X7_isLine rfl rfl rfl (by decide +kernel) ⟨Nat.le_of_ble_eq_true rfl, Nat.le_of_ble_eq_true rfl⟩) ⟨fun a U g mk q => by obtain ⟨q0, qP, qK, qN⟩ := q; exact ⟨q0, qP, va_K.moved (u := U) (U := U.calling g mk a) (Vm.Alike.refl U.vm) qK, jNw_same (u := U) (U := U.calling g mk a) rfl qN⟩, va_recv hK hP (ci := 7) (q0 := 0) rfl rfl, fun U hU hW => ⟨rfl, by rw [hU]; exact hP.sub [0] rfl, va_K.moved hW.alike hK, jNw_warm hW hN⟩⟩ rfl rfl hl.1 rfl (lv_room (Nat.le_of_ble_eq_true rfl)) dX7_numbered_11 ⟨Nat.le_of_ble_eq_true rfl, Nat.le_of_ble_eq_true rfl⟩) (fun r_2 er_4 => ?_)
    subst er_4
    refine lv_if_ne (tgt := 19) hx hb dX7_numbered_14 (by decide) (fun c_5 => ?_) (fun c_5 => ?_)
    · replace hf := ob_neg c_5 hf
      refine lv_aload_n hx hb dX7_numbered_19 rfl (lv_at hl 0 rfl) ?_
      refine va_get (D := D) (ci := 7) (v := .ref a_lineMany) (C := RX7) (T := TX7) (N := 72) hx hb hts iw_wsX7_numbered_X7 hown hK hP 0 rfl rfl 6 (by decide) (hts (.fieldLink RX7 13 "BargeBasinModel" "lineMany" "[I") (List.mem_of_getElem? (i := 2) (by decide +kernel))) (fun _ h9 => h9) rfl dX7_numbered_20 ?_
      refine lv_iload_n hx hb dX7_numbered_23 rfl (lv_at hl 1 rfl) ?_
      replace hf := ob_grd hf
      obtain ⟨hi_6, hf⟩ := hf
      refine va_iald hx hb hK hP 1 0 rfl rfl hi_6 dX7_numbered_24 ?_
      refine lv_if_ge (tgt := 32) hx hb dX7_numbered_25 (by decide) (fun c_7 => ?_) (fun c_7 => ?_)
      · replace hf := ob_pos c_7 hf
        refine lv_iload_n hx hb dX7_numbered_32 rfl (lv_at hl 2 rfl) ?_
        refine lv_if_lt (tgt := 46) hx hb dX7_numbered_33 (by decide) (fun c_8 => ?_) (fun c_8 => ?_)
        · replace hf := ob_pos c_8 hf
          refine lv_iconst (v := 4) hx hb dX7_numbered_46 (by decide) ?_
          refine lv_goto (tgt := 51) hx hb dX7_numbered_47 (by decide) ?_
          cases hf
          exact W.iret hx hb hr (fun t ht hW => ⟨_, rfl, rfl, ht⟩) (fun q h => by cases h) dX7_numbered_51
        · replace hf := ob_neg c_8 hf
          refine lv_iload_n hx hb dX7_numbered_36 rfl (lv_at hl 2 rfl) ?_
          refine lv_aload_n hx hb dX7_numbered_37 rfl (lv_at hl 0 rfl) ?_
          refine va_get (D := D) (ci := 7) (v := .ref a_lineMany) (C := RX7) (T := TX7) (N := 72) hx hb hts iw_wsX7_numbered_X7 hown hK hP 0 rfl rfl 6 (by decide) (hts (.fieldLink RX7 13 "BargeBasinModel" "lineMany" "[I") (List.mem_of_getElem? (i := 2) (by decide +kernel))) (fun _ h9 => h9) rfl dX7_numbered_38 ?_
          refine lv_iload_n hx hb dX7_numbered_41 rfl (lv_at hl 1 rfl) ?_
          replace hf := ob_grd hf
          obtain ⟨hi_9, hf⟩ := hf
          refine va_iald hx hb hK hP 1 0 rfl rfl hi_9 dX7_numbered_42 ?_
          refine lv_icmp_lt (tgt := 50) hx hb dX7_numbered_43 (by decide) (fun c_10 => ?_) (fun c_10 => ?_)
          · replace hf := ob_pos c_10 hf
            refine lv_iconst (v := 0) hx hb dX7_numbered_50 (by decide) ?_
            cases hf
            exact W.iret hx hb hr (fun t ht hW => ⟨_, rfl, rfl, ht⟩) (fun q h => by cases h) dX7_numbered_51
          · replace hf := ob_neg c_10 hf
            refine lv_iconst (v := 4) hx hb dX7_numbered_46 (by decide) ?_
            refine lv_goto (tgt := 51) hx hb dX7_numbered_47 (by decide) ?_
            cases hf
            exact W.iret hx hb hr (fun t ht hW => ⟨_, rfl, rfl, ht⟩) (fun q h => by cases h) dX7_numbered_51
      · replace hf := ob_neg c_7 hf
        refine lv_iconst (v := 3) hx hb dX7_numbered_28 (by decide) ?_
        refine lv_goto (tgt := 51) hx hb dX7_numbered_29 (by decide) ?_
        cases hf
        exact W.iret hx hb hr (fun t ht hW => ⟨_, rfl, rfl, ht⟩) (fun q h => by cases h) dX7_numbered_51
    · replace hf := ob_pos c_5 hf
      refine lv_iconst (v := 2) hx hb dX7_numbered_17 (by decide) ?_
      cases hf
      exact W.iret hx hb hr (fun t ht hW => ⟨_, rfl, rfl, ht⟩) (fun q h => by cases h) dX7_numbered_18
  · replace hf := ob_pos c_1 hf
    refine lv_iconst (v := 1) hx hb dX7_numbered_7 (by decide) ?_
    cases hf
    exact W.iret hx hb hr (fun t ht hW => ⟨_, rfl, rfl, ht⟩) (fun q h => by cases h) dX7_numbered_8
