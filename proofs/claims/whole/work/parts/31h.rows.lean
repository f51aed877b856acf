theorem iw_wsX7_beside_X7 : ∀ w ∈ wsX70, w ∈ wsX7_beside := fun _ h => List.mem_cons_of_mem _ (List.mem_append_right _ h)
abbrev rm_BargeBasinModel_beside : Room := { frames := 1, cells := 0, slots := 0, locals := 22 }
set_option maxHeartbeats 4000000 in
set_option maxRecDepth 100000 in
theorem l_f_BargeBasinModel_beside_L26 {p : Program} {l : Launch} {e : Env} {s : State} {m : MethodId} {args : Array Value} {below : List Frame} {meth : Method} {c : Code} {Q : State → Prop} {D : va_G} {cT : Nat → ClassId} {a_t a_lineSort a_lineMany a_numbers a_wall a_kind a_at a_size a_way a_gate a_undoBarge a_undoFrom a_undoTo a_redoBarge a_redoFrom a_redoTo a_planBarge a_planWay a_planSteps a_places a_heads a_chain a_depth a_parent a_byBarge a_byWay a_bySteps a_far a_firstEdge a_edge a_edgeBarge a_count a_who a_here a_isKept a_keptWidth a_keptHeight a_keptBarges a_keptWall a_keptKind a_keptAt a_keptSize a_keptWay a_keptGate a_out a_counts a_oldNumbers a_newWall a_asAt a_asGate a_asWay a_asWide a_asTall a_asWall : Nat} {k_status : Int32} {k_thrown : Int32} {k_has : Int32} {k_width : Int32} {k_height : Int32} {k_barges : Int32} {k_undoMany : Int32} {k_redoMany : Int32} {k_whyStep : Int32} {k_whyWhat : Int32} {k_whyWho : Int32} {k_hasPlan : Int32} {k_planMany : Int32} {k_stands : Int32} {k_edges : Int32} {k_outs : Int32} {k_seed : Int32} {k_asWidth : Int32} {k_asHeight : Int32} {k_who : Nat → Int32} {k_here : Nat → Int32} {v2 : Int32} {v3 : Int32} (hx : p.tables.exec = Jvm.exec) (hb : c.code = cX7_beside) (hml : c.maxLocals = 8) (hown : s.vm.findClass RX7 = some m.cls) (hts : ∀ w ∈ wsX7_beside, w.before args s = true) (hK : va_K D vwCl (jT cT) s) (hN : jNw s) (hP : va_P D vwCl [(a_t, .inr (7, [.int k_status, .int k_thrown, .int k_has, .int k_width, .int k_height, .ref a_lineSort, .ref a_lineMany, .ref a_numbers, .ref a_wall, .int k_barges, .ref a_kind, .ref a_at, .ref a_size, .ref a_way, .ref a_gate, .int k_undoMany, .int k_redoMany, .ref a_undoBarge, .ref a_undoFrom, .ref a_undoTo, .ref a_redoBarge, .ref a_redoFrom, .ref a_redoTo, .int k_whyStep, .int k_whyWhat, .int k_whyWho, .int k_hasPlan, .int k_planMany, .ref a_planBarge, .ref a_planWay, .ref a_planSteps, .int k_stands, .ref a_places, .ref a_heads, .ref a_chain, .ref a_depth, .ref a_parent, .ref a_byBarge, .ref a_byWay, .ref a_bySteps, .ref a_far, .ref a_firstEdge, .ref a_edge, .ref a_edgeBarge, .int k_edges, .ref a_count, .ref a_who, .ref a_here, .ref a_isKept, .ref a_keptWidth, .ref a_keptHeight, .ref a_keptBarges, .ref a_keptWall, .ref a_keptKind, .ref a_keptAt, .ref a_keptSize, .ref a_keptWay, .ref a_keptGate, .ref a_out, .int k_outs, .ref a_counts, .ref a_oldNumbers, .int k_seed, .ref a_newWall, .int k_asWidth, .int k_asHeight, .ref a_asAt, .ref a_asGate, .ref a_asWay, .ref a_asWide, .ref a_asTall, .ref a_asWall])), (a_who, .inl (cT 0, 64, .inl k_who)), (a_here, .inl (cT 0, 12, .inl k_here))] s.heap) : ∀ (n : Nat) (v4 : Int32) (v5 : Int32) (ex : Int32), f_BargeBasinModel_beside_L26 v2 v3 k_width k_height k_who n v4 v5 = some ex → ∀ (ls : Array Slot), lv_has ls 8 [(0, .ref a_t), (2, .int v2), (3, .int v3), (4, .int v4), (5, .int v5)] → (∀ (v4_31 : Int32), ex = v4_31 → ∀ (ls : Array Slot), lv_has ls 8 [(4, .int v4_31)] → W p l e (headSpec wsX7_beside rm_BargeBasinModel_beside).room s m args below meth c s.heap [] 0 0 Q (F0 m 127 ls [])) → W p l e (headSpec wsX7_beside rm_BargeBasinModel_beside).room s m args below meth c s.heap [] 0 0 Q (F0 m 26 ls []) := by
  intro n
  induction n with
  | zero => intro v4 v5 ex hf; exact (ob_none hf).elim
  | succ n ih =>
    intro v4 v5 ex hf ls hl K0
    rw [f_BargeBasinModel_beside_L26] at hf
    refine lv_iload hx hb dX7_beside_26 (lv_at hl 4 rfl) ?_
    refine lv_iconst (v := 4) hx hb dX7_beside_28 (by decide) ?_
    refine lv_icmp_ge (tgt := 127) hx hb dX7_beside_29 (by decide) (fun c_7 => ?_) (fun c_7 => ?_)
    · replace hf := ob_pos c_7 hf
      cases hf
      exact K0 _ rfl ls (lv_sub hl [3] rfl)
    · replace hf := ob_neg c_7 hf
      refine lv_iload_n hx hb dX7_beside_32 rfl (lv_at hl 1 rfl) ?_
      refine lv_iload hx hb dX7_beside_33 (lv_at hl 4 rfl) ?_
      replace hf := ob_b hf
      obtain ⟨zr_8, hc_9, hf⟩ := hf
      refine vp_callSi (W.runS (As := [.int v5]) (rest := [.int v2]) ⟨hx, hb, hml, hown, hts⟩ (c_f_BargeBasinModel_right l D cT v5 _ hc_9) (cwS 1 hts gX7_beside_X7_right rfl rfl rfl (by decide +kernel) ⟨Nat.le_of_ble_eq_true rfl, Nat.le_of_ble_eq_true rfl⟩) ⟨fun a U g mk q => q, fun U hU hW => ⟨rfl, trivial⟩⟩ rfl rfl hl.1 rfl (lv_room (Nat.le_of_ble_eq_true rfl)) dX7_beside_35 ⟨Nat.le_of_ble_eq_true rfl, Nat.le_of_ble_eq_true rfl⟩) (fun r_8 er_10 => ?_)
      subst er_10
      refine lv_iadd hx hb dX7_beside_38 ?_
      refine lv_topi (fun v6_11 ev6_11 => ?_)
      replace hf := ob_nm ev6_11 hf
      refine lv_istore (lv' := [(6, .int v6_11), (0, .ref a_t), (2, .int v2), (3, .int v3), (4, .int v4), (5, .int v5)]) hx hb dX7_beside_39 hl (by decide) rfl (fun ls hl => ?_)
      refine lv_iload_n hx hb dX7_beside_41 rfl (lv_at hl 3 rfl) ?_
      refine lv_iload hx hb dX7_beside_42 (lv_at hl 5 rfl) ?_
      replace hf := ob_b hf
      obtain ⟨zr_12, hc_13, hf⟩ := hf
      refine vp_callSi (W.runS (As := [.int v5]) (rest := [.int v3]) ⟨hx, hb, hml, hown, hts⟩ (c_f_BargeBasinModel_down l D cT v5 _ hc_13) (cwS 1 hts gX7_beside_X7_down rfl rfl rfl (by decide +kernel) ⟨Nat.le_of_ble_eq_true rfl, Nat.le_of_ble_eq_true rfl⟩) ⟨fun a U g mk q => q, fun U hU hW => ⟨rfl, trivial⟩⟩ rfl rfl hl.1 rfl (lv_room (Nat.le_of_ble_eq_true rfl)) dX7_beside_44 ⟨Nat.le_of_ble_eq_true rfl, Nat.le_of_ble_eq_true rfl⟩) (fun r_12 er_14 => ?_)
      subst er_14
      refine lv_iadd hx hb dX7_beside_47 ?_
      refine lv_topi (fun v7_15 ev7_15 => ?_)
      replace hf := ob_nm ev7_15 hf
      refine lv_istore (lv' := [(7, .int v7_15), (6, .int v6_11), (0, .ref a_t), (2, .int v2), (3, .int v3), (4, .int v4), (5, .int v5)]) hx hb dX7_beside_48 hl (by decide) rfl (fun ls hl => ?_)
      refine lv_aload_n hx hb dX7_beside_50 rfl (lv_at hl 2 rfl) ?_
      refine lv_iload hx hb dX7_beside_51 (lv_at hl 1 rfl) ?_
      refine lv_iload hx hb dX7_beside_53 (lv_at hl 0 rfl) ?_
      replace hf := ob_b hf
      obtain ⟨zr_16, hc_17, hf⟩ := hf
      refine vp_callSi (W.runV (As := [.int v6_11, .int v7_15]) (rest := []) ⟨hx, hb, hml, hown, hts⟩ (c_f_BargeBasinModel_isField l D cT a_t a_lineSort a_lineMany a_numbers a_wall a_kind a_at a_size a_way a_gate a_undoBarge a_undoFrom a_undoTo a_redoBarge a_redoFrom a_redoTo a_planBarge a_planWay a_planSteps a_places a_heads a_chain a_depth a_parent a_byBarge a_byWay a_bySteps a_far a_firstEdge a_edge a_edgeBarge a_count a_who a_here a_isKept a_keptWidth a_keptHeight a_keptBarges a_keptWall a_keptKind a_keptAt a_keptSize a_keptWay a_keptGate a_out a_counts a_oldNumbers a_newWall a_asAt a_asGate a_asWay a_asWide a_asTall a_asWall k_status k_thrown k_has k_width k_height k_barges k_undoMany k_redoMany k_whyStep k_whyWhat k_whyWho k_hasPlan k_planMany k_stands k_edges k_outs k_seed k_asWidth k_asHeight v6_11 v7_15 _ hc_17) (cwV 2 hts gX7_beside_X7_isField rfl rfl rfl (by decide +kernel) ⟨Nat.le_of_ble_eq_true rfl, Nat.le_of_ble_eq_true rfl⟩) ⟨fun a U g mk q => by obtain ⟨q0, qP, qK, qN⟩ := q; exact ⟨q0, qP, va_K.moved (u := U) (U := U.calling g mk a) (Vm.Alike.refl U.vm) qK, jNw_same (u := U) (U := U.calling g mk a) rfl qN⟩, va_recv hK hP (ci := 7) (q0 := 0) rfl rfl, fun U hU hW => ⟨rfl, by rw [hU]; exact hP.sub [0] rfl, va_K.moved hW.alike hK, jNw_warm hW hN⟩⟩ rfl rfl hl.1 rfl (lv_room (Nat.le_of_ble_eq_true rfl)) dX7_beside_55 ⟨Nat.le_of_ble_eq_true rfl, Nat.le_of_ble_eq_true rfl⟩) (fun r_16 er_18 => ?_)
      subst er_18
      refine lv_if_eq (tgt := 121) hx hb dX7_beside_58 (by decide) (fun c_19 => ?_) (fun c_19 => ?_)
      · replace hf := ob_pos c_19 hf
        obtain ⟨v5_20, ev5_20⟩ : ∃ y : Int32, y = v5 + 1 := ⟨_, rfl⟩
        replace hf := ob_nm ev5_20 hf
        refine lv_iinc (v := v5_20) (lv' := [(5, .int v5_20), (7, .int v7_15), (6, .int v6_11), (0, .ref a_t), (2, .int v2), (3, .int v3), (4, .int v4)]) hx hb dX7_beside_121 hl (k := 6) rfl (by rw [ev5_20]; rfl) (by decide) rfl (fun ls hl => ?_)
        refine lv_goto (tgt := 26) hx hb dX7_beside_124 (by decide) ?_
        exact ih _ _ ex hf ls (lv_sub hl [3, 4, 5, 6, 0] rfl) K0
      · replace hf := ob_neg c_19 hf
        refine lv_aload_n hx hb dX7_beside_61 rfl (lv_at hl 2 rfl) ?_
        refine va_get (D := D) (ci := 7) (v := .ref a_who) (C := RX7) (T := TX7) (N := 72) hx hb hts iw_wsX7_beside_X7 hown hK hP 0 rfl rfl 46 (by decide) (hts (.fieldLink RX7 118 "BargeBasinModel" "who" "[I") (List.mem_of_getElem? (i := 2) (by decide +kernel))) (fun _ h9 => h9) rfl dX7_beside_62 ?_
        refine lv_iload hx hb dX7_beside_65 (lv_at hl 1 rfl) ?_
        refine lv_bipush (v := 8) hx hb dX7_beside_67 (by decide) ?_
        refine lv_iload hx hb dX7_beside_69 (lv_at hl 0 rfl) ?_
        refine lv_imul hx hb dX7_beside_71 ?_
        refine lv_iadd hx hb dX7_beside_72 ?_
        replace hf := ob_grd hf
        obtain ⟨hi_21, hf⟩ := hf
        refine va_iald hx hb hK hP 1 0 rfl rfl hi_21 dX7_beside_73 ?_
        refine lv_if_ge (tgt := 80) hx hb dX7_beside_74 (by decide) (fun c_22 => ?_) (fun c_22 => ?_)
        · replace hf := ob_pos c_22 hf
          refine lv_iload hx hb dX7_beside_80 (lv_at hl 5 rfl) ?_
          refine lv_if_ge (tgt := 101) hx hb dX7_beside_82 (by decide) (fun c_23 => ?_) (fun c_23 => ?_)
          · replace hf := ob_pos c_23 hf
            refine lv_iload hx hb dX7_beside_101 (lv_at hl 5 rfl) ?_
            refine lv_aload_n hx hb dX7_beside_103 rfl (lv_at hl 2 rfl) ?_
            refine va_get (D := D) (ci := 7) (v := .ref a_who) (C := RX7) (T := TX7) (N := 72) hx hb hts iw_wsX7_beside_X7 hown hK hP 0 rfl rfl 46 (by decide) (hts (.fieldLink RX7 118 "BargeBasinModel" "who" "[I") (List.mem_of_getElem? (i := 2) (by decide +kernel))) (fun _ h9 => h9) rfl dX7_beside_104 ?_
            refine lv_iload hx hb dX7_beside_107 (lv_at hl 1 rfl) ?_
            refine lv_bipush (v := 8) hx hb dX7_beside_109 (by decide) ?_
            refine lv_iload hx hb dX7_beside_111 (lv_at hl 0 rfl) ?_
            refine lv_imul hx hb dX7_beside_113 ?_
            refine lv_iadd hx hb dX7_beside_114 ?_
            replace hf := ob_grd hf
            obtain ⟨hi_24, hf⟩ := hf
            refine va_iald hx hb hK hP 1 0 rfl rfl hi_24 dX7_beside_115 ?_
            refine va_mmin hx hb (by rw [hml]; exact hl.1.symm) hown (hts (.methodLink RX7 233 Lib.Math.min.name) (List.mem_of_getElem? (i := 3) (by decide +kernel))) (hts (.static Lib.Math.min.name) (List.mem_of_getElem? (i := 4) (by decide +kernel))) (hts (.initialized "java/lang/Math") (List.mem_of_getElem? (i := 5) (by decide +kernel))) (hts (.code Lib.Math.min.name Lib.Math.min.code 2 (some .int)) (List.mem_of_getElem? (i := 6) (by decide +kernel))) (Nat.le_of_ble_eq_true rfl) (Nat.le_of_ble_eq_true rfl) (Nat.le_of_ble_eq_true rfl) (Nat.le_of_ble_eq_true rfl) dX7_beside_116 ?_
            refine lv_topi (fun v4_25 ev4_25 => ?_)
            replace hf := ob_nm ev4_25 hf
            refine lv_istore (lv' := [(4, .int v4_25), (7, .int v7_15), (6, .int v6_11), (0, .ref a_t), (2, .int v2), (3, .int v3), (5, .int v5)]) hx hb dX7_beside_119 hl (by decide) rfl (fun ls hl => ?_)
            obtain ⟨v5_26, ev5_26⟩ : ∃ y : Int32, y = v5 + 1 := ⟨_, rfl⟩
            replace hf := ob_nm ev5_26 hf
            refine lv_iinc (v := v5_26) (lv' := [(5, .int v5_26), (4, .int v4_25), (7, .int v7_15), (6, .int v6_11), (0, .ref a_t), (2, .int v2), (3, .int v3)]) hx hb dX7_beside_121 hl (k := 6) rfl (by rw [ev5_26]; rfl) (by decide) rfl (fun ls hl => ?_)
            refine lv_goto (tgt := 26) hx hb dX7_beside_124 (by decide) ?_
            exact ih _ _ ex hf ls (lv_sub hl [4, 5, 6, 1, 0] rfl) K0
          · replace hf := ob_neg c_23 hf
            refine lv_aload_n hx hb dX7_beside_85 rfl (lv_at hl 2 rfl) ?_
            refine va_get (D := D) (ci := 7) (v := .ref a_who) (C := RX7) (T := TX7) (N := 72) hx hb hts iw_wsX7_beside_X7 hown hK hP 0 rfl rfl 46 (by decide) (hts (.fieldLink RX7 118 "BargeBasinModel" "who" "[I") (List.mem_of_getElem? (i := 2) (by decide +kernel))) (fun _ h9 => h9) rfl dX7_beside_86 ?_
            refine lv_iload hx hb dX7_beside_89 (lv_at hl 1 rfl) ?_
            refine lv_bipush (v := 8) hx hb dX7_beside_91 (by decide) ?_
            refine lv_iload hx hb dX7_beside_93 (lv_at hl 0 rfl) ?_
            refine lv_imul hx hb dX7_beside_95 ?_
            refine lv_iadd hx hb dX7_beside_96 ?_
            replace hf := ob_grd hf
            obtain ⟨hi_27, hf⟩ := hf
            refine va_iald hx hb hK hP 1 0 rfl rfl hi_27 dX7_beside_97 ?_
            refine lv_goto (tgt := 119) hx hb dX7_beside_98 (by decide) ?_
            refine lv_topi (fun v4_28 ev4_28 => ?_)
            replace hf := ob_nm ev4_28 hf
            refine lv_istore (lv' := [(4, .int v4_28), (7, .int v7_15), (6, .int v6_11), (0, .ref a_t), (2, .int v2), (3, .int v3), (5, .int v5)]) hx hb dX7_beside_119 hl (by decide) rfl (fun ls hl => ?_)
            obtain ⟨v5_29, ev5_29⟩ : ∃ y : Int32, y = v5 + 1 := ⟨_, rfl⟩
            replace hf := ob_nm ev5_29 hf
            refine lv_iinc (v := v5_29) (lv' := [(5, .int v5_29), (4, .int v4_28), (7, .int v7_15), (6, .int v6_11), (0, .ref a_t), (2, .int v2), (3, .int v3)]) hx hb dX7_beside_121 hl (k := 6) rfl (by rw [ev5_29]; rfl) (by decide) rfl (fun ls hl => ?_)
            refine lv_goto (tgt := 26) hx hb dX7_beside_124 (by decide) ?_
            exact ih _ _ ex hf ls (lv_sub hl [4, 5, 6, 1, 0] rfl) K0
        · replace hf := ob_neg c_22 hf
          refine lv_goto (tgt := 121) hx hb dX7_beside_77 (by decide) ?_
          obtain ⟨v5_30, ev5_30⟩ : ∃ y : Int32, y = v5 + 1 := ⟨_, rfl⟩
          replace hf := ob_nm ev5_30 hf
          refine lv_iinc (v := v5_30) (lv' := [(5, .int v5_30), (7, .int v7_15), (6, .int v6_11), (0, .ref a_t), (2, .int v2), (3, .int v3), (4, .int v4)]) hx hb dX7_beside_121 hl (k := 6) rfl (by rw [ev5_30]; rfl) (by decide) rfl (fun ls hl => ?_)
          refine lv_goto (tgt := 26) hx hb dX7_beside_124 (by decide) ?_
          exact ih _ _ ex hf ls (lv_sub hl [3, 4, 5, 6, 0] rfl) K0
set_option maxHeartbeats 4000000 in
set_option maxRecDepth 100000 in
theorem c_f_BargeBasinModel_beside (l : Launch) (D : va_G) (cT : Nat → ClassId) (a_t a_lineSort a_lineMany a_numbers a_wall a_kind a_at a_size a_way a_gate a_undoBarge a_undoFrom a_undoTo a_redoBarge a_redoFrom a_redoTo a_planBarge a_planWay a_planSteps a_places a_heads a_chain a_depth a_parent a_byBarge a_byWay a_bySteps a_far a_firstEdge a_edge a_edgeBarge a_count a_who a_here a_isKept a_keptWidth a_keptHeight a_keptBarges a_keptWall a_keptKind a_keptAt a_keptSize a_keptWay a_keptGate a_out a_counts a_oldNumbers a_newWall a_asAt a_asGate a_asWay a_asWide a_asTall a_asWall : Nat) (k_status : Int32) (k_thrown : Int32) (k_has : Int32) (k_width : Int32) (k_height : Int32) (k_barges : Int32) (k_undoMany : Int32) (k_redoMany : Int32) (k_whyStep : Int32) (k_whyWhat : Int32) (k_whyWho : Int32) (k_hasPlan : Int32) (k_planMany : Int32) (k_stands : Int32) (k_edges : Int32) (k_outs : Int32) (k_seed : Int32) (k_asWidth : Int32) (k_asHeight : Int32) (k_who : Nat → Int32) (k_here : Nat → Int32) (v1 : Int32) (r0 : Int32) (hf : f_BargeBasinModel_beside v1 k_width k_height k_who k_here = some r0) : Met l yX7_beside wsX7_beside rm_BargeBasinModel_beside (va_Pc [.ref a_t, .int v1] (fun U => va_P D vwCl [(a_t, .inr (7, [.int k_status, .int k_thrown, .int k_has, .int k_width, .int k_height, .ref a_lineSort, .ref a_lineMany, .ref a_numbers, .ref a_wall, .int k_barges, .ref a_kind, .ref a_at, .ref a_size, .ref a_way, .ref a_gate, .int k_undoMany, .int k_redoMany, .ref a_undoBarge, .ref a_undoFrom, .ref a_undoTo, .ref a_redoBarge, .ref a_redoFrom, .ref a_redoTo, .int k_whyStep, .int k_whyWhat, .int k_whyWho, .int k_hasPlan, .int k_planMany, .ref a_planBarge, .ref a_planWay, .ref a_planSteps, .int k_stands, .ref a_places, .ref a_heads, .ref a_chain, .ref a_depth, .ref a_parent, .ref a_byBarge, .ref a_byWay, .ref a_bySteps, .ref a_far, .ref a_firstEdge, .ref a_edge, .ref a_edgeBarge, .int k_edges, .ref a_count, .ref a_who, .ref a_here, .ref a_isKept, .ref a_keptWidth, .ref a_keptHeight, .ref a_keptBarges, .ref a_keptWall, .ref a_keptKind, .ref a_keptAt, .ref a_keptSize, .ref a_keptWay, .ref a_keptGate, .ref a_out, .int k_outs, .ref a_counts, .ref a_oldNumbers, .int k_seed, .ref a_newWall, .int k_asWidth, .int k_asHeight, .ref a_asAt, .ref a_asGate, .ref a_asWay, .ref a_asWide, .ref a_asTall, .ref a_asWall])), (a_who, .inl (cT 0, 64, .inl k_who)), (a_here, .inl (cT 0, 12, .inl k_here))] U.heap ∧ va_K D vwCl (jT cT) U ∧ jNw U)) (vp_Si (fun r => r = r0)) 0 0 (fun _ => False) := by
  refine Met.ofW (cc := cX7_beside) (maxL := 8) (ret := (some .int)) (by decide) rfl ?_
  intro p e s m args below meth c s₁ B hml hv
  obtain ⟨rfl, hP, hK, hN⟩ := hv
  have hx := B.exec
  have hb := B.bytes
  have hr := B.returns
  have hts := atoms_spec (ws := wsX7_beside) B.pre
  have hown : s.vm.findClass RX7 = some m.cls := findClass_of_methodNamed B.named
  have hlocks := B.notSynchronized
  have hl := lv_entry ([.ref a_t, .int v1]) (n := 8) (Nat.le_of_ble_eq_true rfl)
  rw [lg_entry_eq]
  generalize (lg_sl ([.ref a_t, .int v1]) ++ List.replicate (8 - (lg_sl ([.ref a_t, .int v1])).length) Slot.unset).toArray = ls at hl ⊢
  have hl : lv_has ls 8 [(0, .ref a_t), (1, .int v1)] := hl
  unfold f_BargeBasinModel_beside at hf
  refine lv_aload_n hx hb dX7_beside_0 rfl (lv_at hl 0 rfl) ?_
  refine va_get (D := D) (ci := 7) (v := .ref a_here) (C := RX7) (T := TX7) (N := 72) hx hb hts iw_wsX7_beside_X7 hown hK hP 0 rfl rfl 47 (by decide) (hts (.fieldLink RX7 121 "BargeBasinModel" "here" "[I") (List.mem_of_getElem? (i := 1) (by decide +kernel))) (fun _ h9 => h9) rfl dX7_beside_1 ?_
  refine lv_iload_n hx hb dX7_beside_4 rfl (lv_at hl 1 rfl) ?_
  replace hf := ob_grd hf
  obtain ⟨hi_1, hf⟩ := hf
  refine va_iald hx hb hK hP 2 0 rfl rfl hi_1 dX7_beside_5 ?_
  refine lv_bipush (v := 8) hx hb dX7_beside_6 (by decide) ?_
  replace hf := ob_div hf
  obtain ⟨hd_2, hf⟩ := hf
  refine lv_irem hx hb dX7_beside_8 hd_2 ?_
  refine lv_topi (fun v2_3 ev2_3 => ?_)
  replace hf := ob_nm ev2_3 hf
  refine lv_istore_n (lv' := [(2, .int v2_3), (0, .ref a_t), (1, .int v1)]) hx hb dX7_beside_9 rfl hl (by decide) rfl (fun ls hl => ?_)
  refine lv_aload_n hx hb dX7_beside_10 rfl (lv_at hl 1 rfl) ?_
  refine va_get (D := D) (ci := 7) (v := .ref a_here) (C := RX7) (T := TX7) (N := 72) hx hb hts iw_wsX7_beside_X7 hown hK hP 0 rfl rfl 47 (by decide) (hts (.fieldLink RX7 121 "BargeBasinModel" "here" "[I") (List.mem_of_getElem? (i := 1) (by decide +kernel))) (fun _ h9 => h9) rfl dX7_beside_11 ?_
  refine lv_iload_n hx hb dX7_beside_14 rfl (lv_at hl 2 rfl) ?_
  replace hf := ob_grd hf
  obtain ⟨hi_4, hf⟩ := hf
  refine va_iald hx hb hK hP 2 0 rfl rfl hi_4 dX7_beside_15 ?_
  refine lv_bipush (v := 8) hx hb dX7_beside_16 (by decide) ?_
  replace hf := ob_div hf
  obtain ⟨hd_5, hf⟩ := hf
  refine lv_idiv hx hb dX7_beside_18 hd_5 ?_
  refine lv_topi (fun v3_6 ev3_6 => ?_)
  replace hf := ob_nm ev3_6 hf
  refine lv_istore_n (lv' := [(3, .int v3_6), (2, .int v2_3), (0, .ref a_t), (1, .int v1)]) hx hb dX7_beside_19 rfl hl (by decide) rfl (fun ls hl => ?_)
  refine lv_iconst (v := -1) hx hb dX7_beside_20 (by decide) ?_
  refine lv_istore (lv' := [(4, .int ((-1 : Int32))), (3, .int v3_6), (2, .int v2_3), (0, .ref a_t), (1, .int v1)]) hx hb dX7_beside_21 hl (by decide) rfl (fun ls hl => ?_)
  refine lv_iconst (v := 0) hx hb dX7_beside_23 (by decide) ?_
  refine lv_istore (lv' := [(5, .int ((0 : Int32))), (4, .int ((-1 : Int32))), (3, .int v3_6), (2, .int v2_3), (0, .ref a_t), (1, .int v1)]) hx hb dX7_beside_24 hl (by decide) rfl (fun ls hl => ?_)
  replace hf := ob_b hf
  obtain ⟨ex_32, hq_33, hf⟩ := hf
  refine l_f_BargeBasinModel_beside_L26 hx hb hml hown hts hK hN hP jN _ _ ex_32 hq_33 ls (lv_sub hl [4, 3, 2, 1, 0] rfl) (fun v4_34 ee_35 ls hl => ?_)
  have ee_35 := ee_35.symm
  subst ee_35
  refine lv_iload hx hb dX7_beside_127 (lv_at hl 0 rfl) ?_
  cases hf
  exact W.iret hx hb hr (fun t ht hW => ⟨_, rfl, rfl, ht⟩) (fun q h => by cases h) dX7_beside_129
theorem iw_wsX7_hinders_X7 : ∀ w ∈ wsX70, w ∈ wsX7_hinders := fun _ h => List.mem_cons_of_mem _ (List.mem_append_right _ h)
abbrev rm_BargeBasinModel_hinders : Room := { frames := 3, cells := 0, slots := 0, locals := 69 }
set_option maxHeartbeats 4000000 in
set_option maxRecDepth 100000 in
theorem c_f_BargeBasinModel_hinders (l : Launch) (D : va_G) (cT : Nat → ClassId) (a_t a_lineSort a_lineMany a_numbers a_wall a_kind a_at a_size a_way a_gate a_undoBarge a_undoFrom a_undoTo a_redoBarge a_redoFrom a_redoTo a_planBarge a_planWay a_planSteps a_places a_heads a_chain a_depth a_parent a_byBarge a_byWay a_bySteps a_far a_firstEdge a_edge a_edgeBarge a_count a_who a_here a_isKept a_keptWidth a_keptHeight a_keptBarges a_keptWall a_keptKind a_keptAt a_keptSize a_keptWay a_keptGate a_out a_counts a_oldNumbers a_newWall a_asAt a_asGate a_asWay a_asWide a_asTall a_asWall : Nat) (k_status : Int32) (k_thrown : Int32) (k_has : Int32) (k_width : Int32) (k_height : Int32) (k_barges : Int32) (k_undoMany : Int32) (k_redoMany : Int32) (k_whyStep : Int32) (k_whyWhat : Int32) (k_whyWho : Int32) (k_hasPlan : Int32) (k_planMany : Int32) (k_stands : Int32) (k_edges : Int32) (k_outs : Int32) (k_seed : Int32) (k_asWidth : Int32) (k_asHeight : Int32) (k_wall : Nat → Int32) (k_kind : Nat → Int32) (k_size : Nat → Int32) (k_way : Nat → Int32) (k_who : Nat → Int32) (k_here : Nat → Int32) (v1 : Int32) (v2 : Int32) (r0 : Int32) (hf : f_BargeBasinModel_hinders v1 v2 k_width k_height k_wall k_kind k_size k_way k_who k_here = some r0) : Met l yX7_hinders wsX7_hinders rm_BargeBasinModel_hinders (va_Pc [.ref a_t, .int v1, .int v2] (fun U => va_P D vwCl [(a_t, .inr (7, [.int k_status, .int k_thrown, .int k_has, .int k_width, .int k_height, .ref a_lineSort, .ref a_lineMany, .ref a_numbers, .ref a_wall, .int k_barges, .ref a_kind, .ref a_at, .ref a_size, .ref a_way, .ref a_gate, .int k_undoMany, .int k_redoMany, .ref a_undoBarge, .ref a_undoFrom, .ref a_undoTo, .ref a_redoBarge, .ref a_redoFrom, .ref a_redoTo, .int k_whyStep, .int k_whyWhat, .int k_whyWho, .int k_hasPlan, .int k_planMany, .ref a_planBarge, .ref a_planWay, .ref a_planSteps, .int k_stands, .ref a_places, .ref a_heads, .ref a_chain, .ref a_depth, .ref a_parent, .ref a_byBarge, .ref a_byWay, .ref a_bySteps, .ref a_far, .ref a_firstEdge, .ref a_edge, .ref a_edgeBarge, .int k_edges, .ref a_count, .ref a_who, .ref a_here, .ref a_isKept, .ref a_keptWidth, .ref a_keptHeight, .ref a_keptBarges, .ref a_keptWall, .ref a_keptKind, .ref a_keptAt, .ref a_keptSize, .ref a_keptWay, .ref a_keptGate, .ref a_out, .int k_outs, .ref a_counts, .ref a_oldNumbers, .int k_seed, .ref a_newWall, .int k_asWidth, .int k_asHeight, .ref a_asAt, .ref a_asGate, .ref a_asWay, .ref a_asWide, .ref a_asTall, .ref a_asWall])), (a_wall, .inl (cT 2, 64, .inl k_wall)), (a_kind, .inl (cT 0, 12, .inl k_kind)), (a_size, .inl (cT 0, 12, .inl k_size)), (a_way, .inl (cT 0, 12, .inl k_way)), (a_who, .inl (cT 0, 64, .inl k_who)), (a_here, .inl (cT 0, 12, .inl k_here))] U.heap ∧ va_K D vwCl (jT cT) U ∧ jNw U)) (vp_Si (fun r => r = r0)) 0 0 (fun _ => False) := by
  refine Met.ofW (cc := cX7_hinders) (maxL := 4) (ret := (some .int)) (by decide) rfl ?_
  intro p e s m args below meth c s₁ B hml hv
  obtain ⟨rfl, hP, hK, hN⟩ := hv
  have hx := B.exec
  have hb := B.bytes
  have hr := B.returns
  have hts := atoms_spec (ws := wsX7_hinders) B.pre
  have hown : s.vm.findClass RX7 = some m.cls := findClass_of_methodNamed B.named
  have hlocks := B.notSynchronized
  have hl := lv_entry ([.ref a_t, .int v1, .int v2]) (n := 4) (Nat.le_of_ble_eq_true rfl)
  rw [lg_entry_eq]
  generalize (lg_sl ([.ref a_t, .int v1, .int v2]) ++ List.replicate (4 - (lg_sl ([.ref a_t, .int v1, .int v2])).length) Slot.unset).toArray = ls at hl ⊢
  have hl : lv_has ls 4 [(0, .ref a_t), (1, .int v1), (2, .int v2)] := hl
  unfold f_BargeBasinModel_hinders at hf
  refine lv_aload_n hx hb dX7_hinders_0 rfl (lv_at hl 0 rfl) ?_
  refine lv_iload_n hx hb dX7_hinders_1 rfl (lv_at hl 1 rfl) ?_
  refine lv_iload_n hx hb dX7_hinders_2 rfl (lv_at hl 2 rfl) ?_
  replace hf := ob_b hf
  obtain ⟨zr_1, hc_2, hf⟩ := hf
  refine vp_callSi (W.runV (As := [.int v1, .int v2]) (rest := []) ⟨hx, hb, hml, hown, hts⟩ (c_f_BargeBasinModel_goes l D cT a_t a_lineSort a_lineMany a_numbers a_wall a_kind a_at a_size a_way a_gate a_undoBarge a_undoFrom a_undoTo a_redoBarge a_redoFrom a_redoTo a_planBarge a_planWay a_planSteps a_places a_heads a_chain a_depth a_parent a_byBarge a_byWay a_bySteps a_far a_firstEdge a_edge a_edgeBarge a_count a_who a_here a_isKept a_keptWidth a_keptHeight a_keptBarges a_keptWall a_keptKind a_keptAt a_keptSize a_keptWay a_keptGate a_out a_counts a_oldNumbers a_newWall a_asAt a_asGate a_asWay a_asWide a_asTall a_asWall k_status k_thrown k_has k_width k_height k_barges k_undoMany k_redoMany k_whyStep k_whyWhat k_whyWho k_hasPlan k_planMany k_stands k_edges k_outs k_seed k_asWidth k_asHeight k_kind k_way v1 v2 _ hc_2) (cwV 2 hts gX7_hinders_X7_goes rfl rfl rfl (by decide +kernel) ⟨Nat.le_of_ble_eq_true rfl, Nat.le_of_ble_eq_true rfl⟩) ⟨fun a U g mk q => by obtain ⟨q0, qP, qK, qN⟩ := q; exact ⟨q0, qP, va_K.moved (u := U) (U := U.calling g mk a) (Vm.Alike.refl U.vm) qK, jNw_same (u := U) (U := U.calling g mk a) rfl qN⟩, va_recv hK hP (ci := 7) (q0 := 0) rfl rfl, fun U hU hW => ⟨rfl, by rw [hU]; exact hP.sub [0, 2, 4] rfl, va_K.moved hW.alike hK, jNw_warm hW hN⟩⟩ rfl rfl hl.1 rfl (lv_room (Nat.le_of_ble_eq_true rfl)) dX7_hinders_3 ⟨Nat.le_of_ble_eq_true rfl, Nat.le_of_ble_eq_true rfl⟩) (fun r_1 er_3 => ?_)
  subst er_3
  refine lv_if_ne (tgt := 11) hx hb dX7_hinders_6 (by decide) (fun c_4 => ?_) (fun c_4 => ?_)
  · replace hf := ob_neg c_4 hf
    refine lv_aload_n hx hb dX7_hinders_11 rfl (lv_at hl 0 rfl) ?_
    refine lv_iload_n hx hb dX7_hinders_12 rfl (lv_at hl 1 rfl) ?_
    refine lv_aload_n hx hb dX7_hinders_13 rfl (lv_at hl 0 rfl) ?_
    refine va_get (D := D) (ci := 7) (v := .ref a_here) (C := RX7) (T := TX7) (N := 72) hx hb hts iw_wsX7_hinders_X7 hown hK hP 0 rfl rfl 47 (by decide) (hts (.fieldLink RX7 121 "BargeBasinModel" "here" "[I") (List.mem_of_getElem? (i := 1) (by decide +kernel))) (fun _ h9 => h9) rfl dX7_hinders_14 ?_
    refine lv_iload_n hx hb dX7_hinders_17 rfl (lv_at hl 1 rfl) ?_
    replace hf := ob_grd hf
    obtain ⟨hi_5, hf⟩ := hf
    refine va_iald hx hb hK hP 6 0 rfl rfl hi_5 dX7_hinders_18 ?_
    refine lv_bipush (v := 8) hx hb dX7_hinders_19 (by decide) ?_
    replace hf := ob_div hf
    obtain ⟨hd_6, hf⟩ := hf
    refine lv_irem hx hb dX7_hinders_21 hd_6 ?_
    refine lv_iload_n hx hb dX7_hinders_22 rfl (lv_at hl 2 rfl) ?_
    replace hf := ob_b hf
    obtain ⟨zr_7, hc_8, hf⟩ := hf
    refine vp_callSi (W.runS (As := [.int v2]) (rest := [.int ((k_here v1.toNatClampNeg) - (k_here v1.toNatClampNeg) / ((8 : Int32)) * ((8 : Int32))), .int v1, .ref a_t]) ⟨hx, hb, hml, hown, hts⟩ (c_f_BargeBasinModel_right l D cT v2 _ hc_8) (cwS 1 hts gX7_hinders_X7_right rfl rfl rfl (by decide +kernel) ⟨Nat.le_of_ble_eq_true rfl, Nat.le_of_ble_eq_true rfl⟩) ⟨fun a U g mk q => q, fun U hU hW => ⟨rfl, trivial⟩⟩ rfl rfl hl.1 rfl (lv_room (Nat.le_of_ble_eq_true rfl)) dX7_hinders_23 ⟨Nat.le_of_ble_eq_true rfl, Nat.le_of_ble_eq_true rfl⟩) (fun r_7 er_9 => ?_)
    subst er_9
    refine lv_iadd hx hb dX7_hinders_26 ?_
    refine lv_aload_n hx hb dX7_hinders_27 rfl (lv_at hl 0 rfl) ?_
    refine va_get (D := D) (ci := 7) (v := .ref a_here) (C := RX7) (T := TX7) (N := 72) hx hb hts iw_wsX7_hinders_X7 hown hK hP 0 rfl rfl 47 (by decide) (hts (.fieldLink RX7 121 "BargeBasinModel" "here" "[I") (List.mem_of_getElem? (i := 1) (by decide +kernel))) (fun _ h9 => h9) rfl dX7_hinders_28 ?_
    refine lv_iload_n hx hb dX7_hinders_31 rfl (lv_at hl 1 rfl) ?_
    replace hf := ob_grd hf
    obtain ⟨hi_10, hf⟩ := hf
    refine va_iald hx hb hK hP 6 0 rfl rfl hi_10 dX7_hinders_32 ?_
    refine lv_bipush (v := 8) hx hb dX7_hinders_33 (by decide) ?_
    replace hf := ob_div hf
    obtain ⟨hd_11, hf⟩ := hf
    refine lv_idiv hx hb dX7_hinders_35 hd_11 ?_
    refine lv_iload_n hx hb dX7_hinders_36 rfl (lv_at hl 2 rfl) ?_
    replace hf := ob_b hf
    obtain ⟨zr_12, hc_13, hf⟩ := hf
    refine vp_callSi (W.runS (As := [.int v2]) (rest := [.int ((k_here v1.toNatClampNeg) / ((8 : Int32))), .int (((k_here v1.toNatClampNeg) - (k_here v1.toNatClampNeg) / ((8 : Int32)) * ((8 : Int32))) + r_7), .int v1, .ref a_t]) ⟨hx, hb, hml, hown, hts⟩ (c_f_BargeBasinModel_down l D cT v2 _ hc_13) (cwS 1 hts gX7_hinders_X7_down rfl rfl rfl (by decide +kernel) ⟨Nat.le_of_ble_eq_true rfl, Nat.le_of_ble_eq_true rfl⟩) ⟨fun a U g mk q => q, fun U hU hW => ⟨rfl, trivial⟩⟩ rfl rfl hl.1 rfl (lv_room (Nat.le_of_ble_eq_true rfl)) dX7_hinders_37 ⟨Nat.le_of_ble_eq_true rfl, Nat.le_of_ble_eq_true rfl⟩) (fun r_12 er_14 => ?_)
    subst er_14
    refine lv_iadd hx hb dX7_hinders_40 ?_
    replace hf := ob_b hf
    obtain ⟨zr_15, hc_16, hf⟩ := hf
    refine vp_callSi (W.runV (As := [.int v1, .int (((k_here v1.toNatClampNeg) - (k_here v1.toNatClampNeg) / ((8 : Int32)) * ((8 : Int32))) + r_7), .int (((k_here v1.toNatClampNeg) / ((8 : Int32))) + r_12)]) (rest := []) ⟨hx, hb, hml, hown, hts⟩ (c_f_BargeBasinModel_against l D cT a_t a_lineSort a_lineMany a_numbers a_wall a_kind a_at a_size a_way a_gate a_undoBarge a_undoFrom a_undoTo a_redoBarge a_redoFrom a_redoTo a_planBarge a_planWay a_planSteps a_places a_heads a_chain a_depth a_parent a_byBarge a_byWay a_bySteps a_far a_firstEdge a_edge a_edgeBarge a_count a_who a_here a_isKept a_keptWidth a_keptHeight a_keptBarges a_keptWall a_keptKind a_keptAt a_keptSize a_keptWay a_keptGate a_out a_counts a_oldNumbers a_newWall a_asAt a_asGate a_asWay a_asWide a_asTall a_asWall k_status k_thrown k_has k_width k_height k_barges k_undoMany k_redoMany k_whyStep k_whyWhat k_whyWho k_hasPlan k_planMany k_stands k_edges k_outs k_seed k_asWidth k_asHeight k_wall k_kind k_size k_way k_who v1 (((k_here v1.toNatClampNeg) - (k_here v1.toNatClampNeg) / ((8 : Int32)) * ((8 : Int32))) + r_7) (((k_here v1.toNatClampNeg) / ((8 : Int32))) + r_12) _ hc_16) (cwV 3 hts gX7_hinders_X7_against rfl rfl rfl (by decide +kernel) ⟨Nat.le_of_ble_eq_true rfl, Nat.le_of_ble_eq_true rfl⟩) ⟨fun a U g mk q => by obtain ⟨q0, qP, qK, qN⟩ := q; exact ⟨q0, qP, va_K.moved (u := U) (U := U.calling g mk a) (Vm.Alike.refl U.vm) qK, jNw_same (u := U) (U := U.calling g mk a) rfl qN⟩, va_recv hK hP (ci := 7) (q0 := 0) rfl rfl, fun U hU hW => ⟨rfl, by rw [hU]; exact hP.sub [0, 1, 2, 3, 4, 5] rfl, va_K.moved hW.alike hK, jNw_warm hW hN⟩⟩ rfl rfl hl.1 rfl (lv_room (Nat.le_of_ble_eq_true rfl)) dX7_hinders_41 ⟨Nat.le_of_ble_eq_true rfl, Nat.le_of_ble_eq_true rfl⟩) (fun r_15 er_17 => ?_)
    subst er_17
    refine lv_istore_n (lv' := [(3, .int r_15), (0, .ref a_t), (1, .int v1), (2, .int v2)]) hx hb dX7_hinders_44 rfl hl (by decide) rfl (fun ls hl => ?_)
    refine lv_iload_n hx hb dX7_hinders_45 rfl (lv_at hl 0 rfl) ?_
    refine lv_if_le (tgt := 51) hx hb dX7_hinders_46 (by decide) (fun c_18 => ?_) (fun c_18 => ?_)
    · replace hf := ob_pos c_18 hf
      refine lv_aload_n hx hb dX7_hinders_51 rfl (lv_at hl 1 rfl) ?_
      refine va_get (D := D) (ci := 7) (v := .ref a_kind) (C := RX7) (T := TX7) (N := 72) hx hb hts iw_wsX7_hinders_X7 hown hK hP 0 rfl rfl 10 (by decide) (hts (.fieldLink RX7 23 "BargeBasinModel" "kind" "[I") (List.mem_of_getElem? (i := 2) (by decide +kernel))) (fun _ h9 => h9) rfl dX7_hinders_52 ?_
      refine lv_iload_n hx hb dX7_hinders_55 rfl (lv_at hl 2 rfl) ?_
      replace hf := ob_grd hf
      obtain ⟨hi_19, hf⟩ := hf
      refine va_iald hx hb hK hP 2 0 rfl rfl hi_19 dX7_hinders_56 ?_
      refine lv_iconst (v := 4) hx hb dX7_hinders_57 (by decide) ?_
      refine lv_icmp_ne (tgt := 73) hx hb dX7_hinders_58 (by decide) (fun c_20 => ?_) (fun c_20 => ?_)
      · replace hf := ob_neg c_20 hf
        refine lv_iconst (v := 0) hx hb dX7_hinders_73 (by decide) ?_
        cases hf
        exact W.iret hx hb hr (fun t ht hW => ⟨_, rfl, rfl, ht⟩) (fun q h => by cases h) dX7_hinders_74
      · replace hf := ob_pos c_20 hf
        refine lv_aload_n hx hb dX7_hinders_61 rfl (lv_at hl 1 rfl) ?_
        refine lv_iload_n hx hb dX7_hinders_62 rfl (lv_at hl 2 rfl) ?_
        replace hf := ob_b hf
        obtain ⟨zr_21, hc_22, hf⟩ := hf
        refine vp_callSi (W.runV (As := [.int v1]) (rest := []) ⟨hx, hb, hml, hown, hts⟩ (c_f_BargeBasinModel_beside l D cT a_t a_lineSort a_lineMany a_numbers a_wall a_kind a_at a_size a_way a_gate a_undoBarge a_undoFrom a_undoTo a_redoBarge a_redoFrom a_redoTo a_planBarge a_planWay a_planSteps a_places a_heads a_chain a_depth a_parent a_byBarge a_byWay a_bySteps a_far a_firstEdge a_edge a_edgeBarge a_count a_who a_here a_isKept a_keptWidth a_keptHeight a_keptBarges a_keptWall a_keptKind a_keptAt a_keptSize a_keptWay a_keptGate a_out a_counts a_oldNumbers a_newWall a_asAt a_asGate a_asWay a_asWide a_asTall a_asWall k_status k_thrown k_has k_width k_height k_barges k_undoMany k_redoMany k_whyStep k_whyWhat k_whyWho k_hasPlan k_planMany k_stands k_edges k_outs k_seed k_asWidth k_asHeight k_who k_here v1 _ hc_22) (cwV 1 hts gX7_hinders_X7_beside rfl rfl rfl (by decide +kernel) ⟨Nat.le_of_ble_eq_true rfl, Nat.le_of_ble_eq_true rfl⟩) ⟨fun a U g mk q => by obtain ⟨q0, qP, qK, qN⟩ := q; exact ⟨q0, qP, va_K.moved (u := U) (U := U.calling g mk a) (Vm.Alike.refl U.vm) qK, jNw_same (u := U) (U := U.calling g mk a) rfl qN⟩, va_recv hK hP (ci := 7) (q0 := 0) rfl rfl, fun U hU hW => ⟨rfl, by rw [hU]; exact hP.sub [0, 5, 6] rfl, va_K.moved hW.alike hK, jNw_warm hW hN⟩⟩ rfl rfl hl.1 rfl (lv_room (Nat.le_of_ble_eq_true rfl)) dX7_hinders_63 ⟨Nat.le_of_ble_eq_true rfl, Nat.le_of_ble_eq_true rfl⟩) (fun r_21 er_23 => ?_)
        subst er_23
        refine lv_if_lt (tgt := 73) hx hb dX7_hinders_66 (by decide) (fun c_24 => ?_) (fun c_24 => ?_)
        · replace hf := ob_pos c_24 hf
          refine lv_iconst (v := 0) hx hb dX7_hinders_73 (by decide) ?_
          cases hf
          exact W.iret hx hb hr (fun t ht hW => ⟨_, rfl, rfl, ht⟩) (fun q h => by cases h) dX7_hinders_74
        · replace hf := ob_neg c_24 hf
          refine lv_iconst (v := 5) hx hb dX7_hinders_69 (by decide) ?_
          refine lv_goto (tgt := 74) hx hb dX7_hinders_70 (by decide) ?_
          cases hf
          exact W.iret hx hb hr (fun t ht hW => ⟨_, rfl, rfl, ht⟩) (fun q h => by cases h) dX7_hinders_74
    · replace hf := ob_neg c_18 hf
      refine lv_iload_n hx hb dX7_hinders_49 rfl (lv_at hl 0 rfl) ?_
      cases hf
      exact W.iret hx hb hr (fun t ht hW => ⟨_, rfl, rfl, ht⟩) (fun q h => by cases h) dX7_hinders_50
  · replace hf := ob_pos c_4 hf
    refine lv_iconst (v := 1) hx hb dX7_hinders_9 (by decide) ?_
    cases hf
    exact W.iret hx hb hr (fun t ht hW => ⟨_, rfl, rfl, ht⟩) (fun q h => by cases h) dX7_hinders_10
