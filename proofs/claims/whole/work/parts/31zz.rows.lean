theorem iw_wsX7_least_X7 : ∀ w ∈ wsX70, w ∈ wsX7_least := fun _ h => List.mem_cons_of_mem _ (List.mem_append_right _ h)
abbrev rm_BargeBasinModel_least : Room := { frames := 2, cells := 0, slots := 0, locals := 42 }
set_option maxHeartbeats 4000000 in
set_option maxRecDepth 100000 in
theorem l_f_BargeBasinModel_least_L55 {p : Program} {l : Launch} {e : Env} {s : State} {m : MethodId} {args : Array Value} {below : List Frame} {meth : Method} {c : Code} {Q : State → Prop} {D : va_G} {cT : Nat → ClassId} {a_t a_lineSort a_lineMany a_numbers a_wall a_kind a_at a_size a_way a_gate a_undoBarge a_undoFrom a_undoTo a_redoBarge a_redoFrom a_redoTo a_planBarge a_planWay a_planSteps a_places a_heads a_chain a_depth a_parent a_byBarge a_byWay a_bySteps a_far a_firstEdge a_edge a_edgeBarge a_count a_who a_here a_isKept a_keptWidth a_keptHeight a_keptBarges a_keptWall a_keptKind a_keptAt a_keptSize a_keptWay a_keptGate a_out a_counts a_oldNumbers a_newWall a_asAt a_asGate a_asWay a_asWide a_asTall a_asWall : Nat} {k_status : Int32} {k_thrown : Int32} {k_has : Int32} {k_width : Int32} {k_height : Int32} {k_barges : Int32} {k_undoMany : Int32} {k_redoMany : Int32} {k_whyStep : Int32} {k_whyWhat : Int32} {k_whyWho : Int32} {k_hasPlan : Int32} {k_planMany : Int32} {k_stands : Int32} {k_edges : Int32} {k_outs : Int32} {k_seed : Int32} {k_asWidth : Int32} {k_asHeight : Int32} {k_kind : Nat → Int32} {k_size : Nat → Int32} {k_way : Nat → Int32} {k_who : Nat → Int32} {k_here : Nat → Int32} {v1 : Int32} {v3 : Int32} {v4 : Int32} {v6 : Int32} (hx : p.tables.exec = Jvm.exec) (hb : c.code = cX7_least) (hml : c.maxLocals = 8) (hown : s.vm.findClass RX7 = some m.cls) (hts : ∀ w ∈ wsX7_least, w.before args s = true) (hK : va_K D vwCl (jT cT) s) (hN : jNw s) (hP : va_P D vwCl [(a_t, .inr (7, [.int k_status, .int k_thrown, .int k_has, .int k_width, .int k_height, .ref a_lineSort, .ref a_lineMany, .ref a_numbers, .ref a_wall, .int k_barges, .ref a_kind, .ref a_at, .ref a_size, .ref a_way, .ref a_gate, .int k_undoMany, .int k_redoMany, .ref a_undoBarge, .ref a_undoFrom, .ref a_undoTo, .ref a_redoBarge, .ref a_redoFrom, .ref a_redoTo, .int k_whyStep, .int k_whyWhat, .int k_whyWho, .int k_hasPlan, .int k_planMany, .ref a_planBarge, .ref a_planWay, .ref a_planSteps, .int k_stands, .ref a_places, .ref a_heads, .ref a_chain, .ref a_depth, .ref a_parent, .ref a_byBarge, .ref a_byWay, .ref a_bySteps, .ref a_far, .ref a_firstEdge, .ref a_edge, .ref a_edgeBarge, .int k_edges, .ref a_count, .ref a_who, .ref a_here, .ref a_isKept, .ref a_keptWidth, .ref a_keptHeight, .ref a_keptBarges, .ref a_keptWall, .ref a_keptKind, .ref a_keptAt, .ref a_keptSize, .ref a_keptWay, .ref a_keptGate, .ref a_out, .int k_outs, .ref a_counts, .ref a_oldNumbers, .int k_seed, .ref a_newWall, .int k_asWidth, .int k_asHeight, .ref a_asAt, .ref a_asGate, .ref a_asWay, .ref a_asWide, .ref a_asTall, .ref a_asWall])), (a_kind, .inl (cT 0, 12, .inl k_kind)), (a_size, .inl (cT 0, 12, .inl k_size)), (a_way, .inl (cT 0, 12, .inl k_way)), (a_who, .inl (cT 0, 64, .inl k_who)), (a_here, .inl (cT 0, 12, .inl k_here))] s.heap) : ∀ (n : Nat) (v5 : Int32) (v7 : Int32) (ex : Int32), f_BargeBasinModel_least_L55 v1 v3 v4 v6 k_kind k_size k_way k_who n v5 v7 = some ex → ∀ (ls : Array Slot), lv_has ls 8 [(0, .ref a_t), (1, .int v1), (3, .int v3), (4, .int v4), (5, .int v5), (6, .int v6), (7, .int v7)] → (∀ (v5_30 : Int32), ex = v5_30 → ∀ (ls : Array Slot), lv_has ls 8 [(0, .ref a_t), (1, .int v1), (3, .int v3), (4, .int v4), (5, .int v5_30), (6, .int v6)] → W p l e (headSpec wsX7_least rm_BargeBasinModel_least).room s m args below meth c s.heap [] 0 0 Q (F0 m 126 ls [])) → W p l e (headSpec wsX7_least rm_BargeBasinModel_least).room s m args below meth c s.heap [] 0 0 Q (F0 m 55 ls []) := by
  intro n
  induction n with
  | zero => intro v5 v7 ex hf; exact (ob_none hf).elim
  | succ n ih =>
    intro v5 v7 ex hf ls hl K0
    rw [f_BargeBasinModel_least_L55] at hf
    refine lv_iload hx hb dX7_least_55 (lv_at hl 6 rfl) ?_
    refine lv_iload_n hx hb dX7_least_57 rfl (lv_at hl 2 rfl) ?_
    refine lv_aload_n hx hb dX7_least_58 rfl (lv_at hl 0 rfl) ?_
    refine lv_iload_n hx hb dX7_least_59 rfl (lv_at hl 1 rfl) ?_
    replace hf := ob_b hf
    obtain ⟨zr_17, hc_18, hf⟩ := hf
    refine vp_callSi (W.runV (As := [.int v1]) (rest := [.int v3, .int v7]) ⟨hx, hb, hml, hown, hts⟩ (c_f_BargeBasinModel_wide l D cT a_t a_lineSort a_lineMany a_numbers a_wall a_kind a_at a_size a_way a_gate a_undoBarge a_undoFrom a_undoTo a_redoBarge a_redoFrom a_redoTo a_planBarge a_planWay a_planSteps a_places a_heads a_chain a_depth a_parent a_byBarge a_byWay a_bySteps a_far a_firstEdge a_edge a_edgeBarge a_count a_who a_here a_isKept a_keptWidth a_keptHeight a_keptBarges a_keptWall a_keptKind a_keptAt a_keptSize a_keptWay a_keptGate a_out a_counts a_oldNumbers a_newWall a_asAt a_asGate a_asWay a_asWide a_asTall a_asWall k_status k_thrown k_has k_width k_height k_barges k_undoMany k_redoMany k_whyStep k_whyWhat k_whyWho k_hasPlan k_planMany k_stands k_edges k_outs k_seed k_asWidth k_asHeight k_kind k_size k_way v1 _ hc_18) (cwV 1 hts gX7_least_X7_wide rfl rfl rfl (by decide +kernel) ⟨Nat.le_of_ble_eq_true rfl, Nat.le_of_ble_eq_true rfl⟩) ⟨fun a U g mk q => by obtain ⟨q0, qP, qK, qN⟩ := q; exact ⟨q0, qP, va_K.moved (u := U) (U := U.calling g mk a) (Vm.Alike.refl U.vm) qK, jNw_same (u := U) (U := U.calling g mk a) rfl qN⟩, va_recv hK hP (ci := 7) (q0 := 0) rfl rfl, fun U hU hW => ⟨rfl, by rw [hU]; exact hP.sub [0, 1, 2, 3] rfl, va_K.moved hW.alike hK, jNw_warm hW hN⟩⟩ rfl rfl hl.1 rfl (lv_room (Nat.le_of_ble_eq_true rfl)) dX7_least_60 ⟨Nat.le_of_ble_eq_true rfl, Nat.le_of_ble_eq_true rfl⟩) (fun r_17 er_19 => ?_)
    subst er_19
    refine lv_iadd hx hb dX7_least_63 ?_
    refine lv_icmp_ge (tgt := 126) hx hb dX7_least_64 (by decide) (fun c_20 => ?_) (fun c_20 => ?_)
    · replace hf := ob_pos c_20 hf
      cases hf
      exact K0 _ rfl ls (lv_sub hl [0, 1, 2, 3, 4, 5] rfl)
    · replace hf := ob_neg c_20 hf
      refine lv_aload_n hx hb dX7_least_67 rfl (lv_at hl 0 rfl) ?_
      refine va_get (D := D) (ci := 7) (v := .ref a_who) (C := RX7) (T := TX7) (N := 72) hx hb hts iw_wsX7_least_X7 hown hK hP 0 rfl rfl 46 (by decide) (hts (.fieldLink RX7 118 "BargeBasinModel" "who" "[I") (List.mem_of_getElem? (i := 2) (by decide +kernel))) (fun _ h9 => h9) rfl dX7_least_68 ?_
      refine lv_iload hx hb dX7_least_71 (lv_at hl 6 rfl) ?_
      refine lv_bipush (v := 8) hx hb dX7_least_73 (by decide) ?_
      refine lv_iload hx hb dX7_least_75 (lv_at hl 5 rfl) ?_
      refine lv_imul hx hb dX7_least_77 ?_
      refine lv_iadd hx hb dX7_least_78 ?_
      replace hf := ob_grd hf
      obtain ⟨hi_21, hf⟩ := hf
      refine va_iald hx hb hK hP 4 0 rfl rfl hi_21 dX7_least_79 ?_
      refine lv_if_lt (tgt := 120) hx hb dX7_least_80 (by decide) (fun c_22 => ?_) (fun c_22 => ?_)
      · replace hf := ob_pos c_22 hf
        obtain ⟨v7_23, ev7_23⟩ : ∃ y : Int32, y = v7 + 1 := ⟨_, rfl⟩
        replace hf := ob_nm ev7_23 hf
        refine lv_iinc (v := v7_23) (lv' := [(7, .int v7_23), (0, .ref a_t), (1, .int v1), (3, .int v3), (4, .int v4), (5, .int v5), (6, .int v6)]) hx hb dX7_least_120 hl (k := 6) rfl (by rw [ev7_23]; rfl) (by decide) rfl (fun ls hl => ?_)
        refine lv_goto (tgt := 55) hx hb dX7_least_123 (by decide) ?_
        exact ih _ _ ex hf ls (lv_sub hl [1, 2, 3, 4, 5, 6, 0] rfl) K0
      · replace hf := ob_neg c_22 hf
        refine lv_aload_n hx hb dX7_least_83 rfl (lv_at hl 0 rfl) ?_
        refine va_get (D := D) (ci := 7) (v := .ref a_who) (C := RX7) (T := TX7) (N := 72) hx hb hts iw_wsX7_least_X7 hown hK hP 0 rfl rfl 46 (by decide) (hts (.fieldLink RX7 118 "BargeBasinModel" "who" "[I") (List.mem_of_getElem? (i := 2) (by decide +kernel))) (fun _ h9 => h9) rfl dX7_least_84 ?_
        refine lv_iload hx hb dX7_least_87 (lv_at hl 6 rfl) ?_
        refine lv_bipush (v := 8) hx hb dX7_least_89 (by decide) ?_
        refine lv_iload hx hb dX7_least_91 (lv_at hl 5 rfl) ?_
        refine lv_imul hx hb dX7_least_93 ?_
        refine lv_iadd hx hb dX7_least_94 ?_
        replace hf := ob_grd hf
        obtain ⟨hi_24, hf⟩ := hf
        refine va_iald hx hb hK hP 4 0 rfl rfl hi_24 dX7_least_95 ?_
        refine lv_iload_n hx hb dX7_least_96 rfl (lv_at hl 1 rfl) ?_
        refine lv_icmp_eq (tgt := 120) hx hb dX7_least_97 (by decide) (fun c_25 => ?_) (fun c_25 => ?_)
        · replace hf := ob_pos c_25 hf
          obtain ⟨v7_26, ev7_26⟩ : ∃ y : Int32, y = v7 + 1 := ⟨_, rfl⟩
          replace hf := ob_nm ev7_26 hf
          refine lv_iinc (v := v7_26) (lv' := [(7, .int v7_26), (0, .ref a_t), (1, .int v1), (3, .int v3), (4, .int v4), (5, .int v5), (6, .int v6)]) hx hb dX7_least_120 hl (k := 6) rfl (by rw [ev7_26]; rfl) (by decide) rfl (fun ls hl => ?_)
          refine lv_goto (tgt := 55) hx hb dX7_least_123 (by decide) ?_
          exact ih _ _ ex hf ls (lv_sub hl [1, 2, 3, 4, 5, 6, 0] rfl) K0
        · replace hf := ob_neg c_25 hf
          refine lv_iload hx hb dX7_least_100 (lv_at hl 4 rfl) ?_
          refine lv_aload_n hx hb dX7_least_102 rfl (lv_at hl 0 rfl) ?_
          refine va_get (D := D) (ci := 7) (v := .ref a_who) (C := RX7) (T := TX7) (N := 72) hx hb hts iw_wsX7_least_X7 hown hK hP 0 rfl rfl 46 (by decide) (hts (.fieldLink RX7 118 "BargeBasinModel" "who" "[I") (List.mem_of_getElem? (i := 2) (by decide +kernel))) (fun _ h9 => h9) rfl dX7_least_103 ?_
          refine lv_iload hx hb dX7_least_106 (lv_at hl 6 rfl) ?_
          refine lv_bipush (v := 8) hx hb dX7_least_108 (by decide) ?_
          refine lv_iload hx hb dX7_least_110 (lv_at hl 5 rfl) ?_
          refine lv_imul hx hb dX7_least_112 ?_
          refine lv_iadd hx hb dX7_least_113 ?_
          replace hf := ob_grd hf
          obtain ⟨hi_27, hf⟩ := hf
          refine va_iald hx hb hK hP 4 0 rfl rfl hi_27 dX7_least_114 ?_
          refine va_mmin hx hb (by rw [hml]; exact hl.1.symm) hown (hts (.methodLink RX7 233 Lib.Math.min.name) (List.mem_of_getElem? (i := 3) (by decide +kernel))) (hts (.static Lib.Math.min.name) (List.mem_of_getElem? (i := 4) (by decide +kernel))) (hts (.initialized "java/lang/Math") (List.mem_of_getElem? (i := 5) (by decide +kernel))) (hts (.code Lib.Math.min.name Lib.Math.min.code 2 (some .int)) (List.mem_of_getElem? (i := 6) (by decide +kernel))) (Nat.le_of_ble_eq_true rfl) (Nat.le_of_ble_eq_true rfl) (Nat.le_of_ble_eq_true rfl) (Nat.le_of_ble_eq_true rfl) dX7_least_115 ?_
          refine lv_topi (fun v5_28 ev5_28 => ?_)
          replace hf := ob_nm ev5_28 hf
          refine lv_istore (lv' := [(5, .int v5_28), (0, .ref a_t), (1, .int v1), (3, .int v3), (4, .int v4), (6, .int v6), (7, .int v7)]) hx hb dX7_least_118 hl (by decide) rfl (fun ls hl => ?_)
          obtain ⟨v7_29, ev7_29⟩ : ∃ y : Int32, y = v7 + 1 := ⟨_, rfl⟩
          replace hf := ob_nm ev7_29 hf
          refine lv_iinc (v := v7_29) (lv' := [(7, .int v7_29), (5, .int v5_28), (0, .ref a_t), (1, .int v1), (3, .int v3), (4, .int v4), (6, .int v6)]) hx hb dX7_least_120 hl (k := 6) rfl (by rw [ev7_29]; rfl) (by decide) rfl (fun ls hl => ?_)
          refine lv_goto (tgt := 55) hx hb dX7_least_123 (by decide) ?_
          exact ih _ _ ex hf ls (lv_sub hl [2, 3, 4, 5, 1, 6, 0] rfl) K0
set_option maxHeartbeats 4000000 in
set_option maxRecDepth 100000 in
theorem l_f_BargeBasinModel_least_L39 {p : Program} {l : Launch} {e : Env} {s : State} {m : MethodId} {args : Array Value} {below : List Frame} {meth : Method} {c : Code} {Q : State → Prop} {D : va_G} {cT : Nat → ClassId} {a_t a_lineSort a_lineMany a_numbers a_wall a_kind a_at a_size a_way a_gate a_undoBarge a_undoFrom a_undoTo a_redoBarge a_redoFrom a_redoTo a_planBarge a_planWay a_planSteps a_places a_heads a_chain a_depth a_parent a_byBarge a_byWay a_bySteps a_far a_firstEdge a_edge a_edgeBarge a_count a_who a_here a_isKept a_keptWidth a_keptHeight a_keptBarges a_keptWall a_keptKind a_keptAt a_keptSize a_keptWay a_keptGate a_out a_counts a_oldNumbers a_newWall a_asAt a_asGate a_asWay a_asWide a_asTall a_asWall : Nat} {k_status : Int32} {k_thrown : Int32} {k_has : Int32} {k_width : Int32} {k_height : Int32} {k_barges : Int32} {k_undoMany : Int32} {k_redoMany : Int32} {k_whyStep : Int32} {k_whyWhat : Int32} {k_whyWho : Int32} {k_hasPlan : Int32} {k_planMany : Int32} {k_stands : Int32} {k_edges : Int32} {k_outs : Int32} {k_seed : Int32} {k_asWidth : Int32} {k_asHeight : Int32} {k_kind : Nat → Int32} {k_size : Nat → Int32} {k_way : Nat → Int32} {k_who : Nat → Int32} {k_here : Nat → Int32} {v1 : Int32} {v3 : Int32} {v4 : Int32} (hx : p.tables.exec = Jvm.exec) (hb : c.code = cX7_least) (hml : c.maxLocals = 8) (hown : s.vm.findClass RX7 = some m.cls) (hts : ∀ w ∈ wsX7_least, w.before args s = true) (hK : va_K D vwCl (jT cT) s) (hN : jNw s) (hP : va_P D vwCl [(a_t, .inr (7, [.int k_status, .int k_thrown, .int k_has, .int k_width, .int k_height, .ref a_lineSort, .ref a_lineMany, .ref a_numbers, .ref a_wall, .int k_barges, .ref a_kind, .ref a_at, .ref a_size, .ref a_way, .ref a_gate, .int k_undoMany, .int k_redoMany, .ref a_undoBarge, .ref a_undoFrom, .ref a_undoTo, .ref a_redoBarge, .ref a_redoFrom, .ref a_redoTo, .int k_whyStep, .int k_whyWhat, .int k_whyWho, .int k_hasPlan, .int k_planMany, .ref a_planBarge, .ref a_planWay, .ref a_planSteps, .int k_stands, .ref a_places, .ref a_heads, .ref a_chain, .ref a_depth, .ref a_parent, .ref a_byBarge, .ref a_byWay, .ref a_bySteps, .ref a_far, .ref a_firstEdge, .ref a_edge, .ref a_edgeBarge, .int k_edges, .ref a_count, .ref a_who, .ref a_here, .ref a_isKept, .ref a_keptWidth, .ref a_keptHeight, .ref a_keptBarges, .ref a_keptWall, .ref a_keptKind, .ref a_keptAt, .ref a_keptSize, .ref a_keptWay, .ref a_keptGate, .ref a_out, .int k_outs, .ref a_counts, .ref a_oldNumbers, .int k_seed, .ref a_newWall, .int k_asWidth, .int k_asHeight, .ref a_asAt, .ref a_asGate, .ref a_asWay, .ref a_asWide, .ref a_asTall, .ref a_asWall])), (a_kind, .inl (cT 0, 12, .inl k_kind)), (a_size, .inl (cT 0, 12, .inl k_size)), (a_way, .inl (cT 0, 12, .inl k_way)), (a_who, .inl (cT 0, 64, .inl k_who)), (a_here, .inl (cT 0, 12, .inl k_here))] s.heap) : ∀ (n : Nat) (v5 : Int32) (v6 : Int32) (ex : Int32), f_BargeBasinModel_least_L39 v1 v3 v4 k_kind k_size k_way k_who n v5 v6 = some ex → ∀ (ls : Array Slot), lv_has ls 8 [(0, .ref a_t), (1, .int v1), (3, .int v3), (4, .int v4), (5, .int v5), (6, .int v6)] → (∀ (v5_36 : Int32), ex = v5_36 → ∀ (ls : Array Slot), lv_has ls 8 [(5, .int v5_36)] → W p l e (headSpec wsX7_least rm_BargeBasinModel_least).room s m args below meth c s.heap [] 0 0 Q (F0 m 132 ls [])) → W p l e (headSpec wsX7_least rm_BargeBasinModel_least).room s m args below meth c s.heap [] 0 0 Q (F0 m 39 ls []) := by
  intro n
  induction n with
  | zero => intro v5 v6 ex hf; exact (ob_none hf).elim
  | succ n ih =>
    intro v5 v6 ex hf ls hl K0
    rw [f_BargeBasinModel_least_L39] at hf
    refine lv_iload hx hb dX7_least_39 (lv_at hl 5 rfl) ?_
    refine lv_iload hx hb dX7_least_41 (lv_at hl 3 rfl) ?_
    refine lv_aload_n hx hb dX7_least_43 rfl (lv_at hl 0 rfl) ?_
    refine lv_iload_n hx hb dX7_least_44 rfl (lv_at hl 1 rfl) ?_
    replace hf := ob_b hf
    obtain ⟨zr_13, hc_14, hf⟩ := hf
    refine vp_callSi (W.runV (As := [.int v1]) (rest := [.int v4, .int v6]) ⟨hx, hb, hml, hown, hts⟩ (c_f_BargeBasinModel_tall l D cT a_t a_lineSort a_lineMany a_numbers a_wall a_kind a_at a_size a_way a_gate a_undoBarge a_undoFrom a_undoTo a_redoBarge a_redoFrom a_redoTo a_planBarge a_planWay a_planSteps a_places a_heads a_chain a_depth a_parent a_byBarge a_byWay a_bySteps a_far a_firstEdge a_edge a_edgeBarge a_count a_who a_here a_isKept a_keptWidth a_keptHeight a_keptBarges a_keptWall a_keptKind a_keptAt a_keptSize a_keptWay a_keptGate a_out a_counts a_oldNumbers a_newWall a_asAt a_asGate a_asWay a_asWide a_asTall a_asWall k_status k_thrown k_has k_width k_height k_barges k_undoMany k_redoMany k_whyStep k_whyWhat k_whyWho k_hasPlan k_planMany k_stands k_edges k_outs k_seed k_asWidth k_asHeight k_kind k_size k_way v1 _ hc_14) (cwV 1 hts gX7_least_X7_tall rfl rfl rfl (by decide +kernel) ⟨Nat.le_of_ble_eq_true rfl, Nat.le_of_ble_eq_true rfl⟩) ⟨fun a U g mk q => by obtain ⟨q0, qP, qK, qN⟩ := q; exact ⟨q0, qP, va_K.moved (u := U) (U := U.calling g mk a) (Vm.Alike.refl U.vm) qK, jNw_same (u := U) (U := U.calling g mk a) rfl qN⟩, va_recv hK hP (ci := 7) (q0 := 0) rfl rfl, fun U hU hW => ⟨rfl, by rw [hU]; exact hP.sub [0, 1, 2, 3] rfl, va_K.moved hW.alike hK, jNw_warm hW hN⟩⟩ rfl rfl hl.1 rfl (lv_room (Nat.le_of_ble_eq_true rfl)) dX7_least_45 ⟨Nat.le_of_ble_eq_true rfl, Nat.le_of_ble_eq_true rfl⟩) (fun r_13 er_15 => ?_)
    subst er_15
    refine lv_iadd hx hb dX7_least_48 ?_
    refine lv_icmp_ge (tgt := 132) hx hb dX7_least_49 (by decide) (fun c_16 => ?_) (fun c_16 => ?_)
    · replace hf := ob_pos c_16 hf
      cases hf
      exact K0 _ rfl ls (lv_sub hl [4] rfl)
    · replace hf := ob_neg c_16 hf
      refine lv_iload_n hx hb dX7_least_52 rfl (lv_at hl 2 rfl) ?_
      refine lv_istore (lv' := [(7, .int v3), (0, .ref a_t), (1, .int v1), (3, .int v3), (4, .int v4), (5, .int v5), (6, .int v6)]) hx hb dX7_least_53 hl (by decide) rfl (fun ls hl => ?_)
      replace hf := ob_b hf
      obtain ⟨ex_31, hq_32, hf⟩ := hf
      refine l_f_BargeBasinModel_least_L55 hx hb hml hown hts hK hN hP jN _ _ ex_31 hq_32 ls (lv_sub hl [1, 2, 3, 4, 5, 6, 0] rfl) (fun v5_33 ee_35 ls hl => ?_)
      have ee_35 := ee_35.symm
      subst ee_35
      obtain ⟨v6_34, ev6_34⟩ : ∃ y : Int32, y = v6 + 1 := ⟨_, rfl⟩
      replace hf := ob_nm ev6_34 hf
      refine lv_iinc (v := v6_34) (lv' := [(6, .int v6_34), (0, .ref a_t), (1, .int v1), (3, .int v3), (4, .int v4), (5, .int v5_33)]) hx hb dX7_least_126 hl (k := 5) rfl (by rw [ev6_34]; rfl) (by decide) rfl (fun ls hl => ?_)
      refine lv_goto (tgt := 39) hx hb dX7_least_129 (by decide) ?_
      exact ih _ _ ex hf ls (lv_sub hl [1, 2, 3, 4, 5, 0] rfl) K0
set_option maxHeartbeats 4000000 in
set_option maxRecDepth 100000 in
theorem c_f_BargeBasinModel_least (l : Launch) (D : va_G) (cT : Nat → ClassId) (a_t a_lineSort a_lineMany a_numbers a_wall a_kind a_at a_size a_way a_gate a_undoBarge a_undoFrom a_undoTo a_redoBarge a_redoFrom a_redoTo a_planBarge a_planWay a_planSteps a_places a_heads a_chain a_depth a_parent a_byBarge a_byWay a_bySteps a_far a_firstEdge a_edge a_edgeBarge a_count a_who a_here a_isKept a_keptWidth a_keptHeight a_keptBarges a_keptWall a_keptKind a_keptAt a_keptSize a_keptWay a_keptGate a_out a_counts a_oldNumbers a_newWall a_asAt a_asGate a_asWay a_asWide a_asTall a_asWall : Nat) (k_status : Int32) (k_thrown : Int32) (k_has : Int32) (k_width : Int32) (k_height : Int32) (k_barges : Int32) (k_undoMany : Int32) (k_redoMany : Int32) (k_whyStep : Int32) (k_whyWhat : Int32) (k_whyWho : Int32) (k_hasPlan : Int32) (k_planMany : Int32) (k_stands : Int32) (k_edges : Int32) (k_outs : Int32) (k_seed : Int32) (k_asWidth : Int32) (k_asHeight : Int32) (k_kind : Nat → Int32) (k_size : Nat → Int32) (k_way : Nat → Int32) (k_who : Nat → Int32) (k_here : Nat → Int32) (v1 : Int32) (v2 : Int32) (r0 : Int32) (hf : f_BargeBasinModel_least v1 v2 k_kind k_size k_way k_who k_here = some r0) : Met l yX7_least wsX7_least rm_BargeBasinModel_least (va_Pc [.ref a_t, .int v1, .int v2] (fun U => va_P D vwCl [(a_t, .inr (7, [.int k_status, .int k_thrown, .int k_has, .int k_width, .int k_height, .ref a_lineSort, .ref a_lineMany, .ref a_numbers, .ref a_wall, .int k_barges, .ref a_kind, .ref a_at, .ref a_size, .ref a_way, .ref a_gate, .int k_undoMany, .int k_redoMany, .ref a_undoBarge, .ref a_undoFrom, .ref a_undoTo, .ref a_redoBarge, .ref a_redoFrom, .ref a_redoTo, .int k_whyStep, .int k_whyWhat, .int k_whyWho, .int k_hasPlan, .int k_planMany, .ref a_planBarge, .ref a_planWay, .ref a_planSteps, .int k_stands, .ref a_places, .ref a_heads, .ref a_chain, .ref a_depth, .ref a_parent, .ref a_byBarge, .ref a_byWay, .ref a_bySteps, .ref a_far, .ref a_firstEdge, .ref a_edge, .ref a_edgeBarge, .int k_edges, .ref a_count, .ref a_who, .ref a_here, .ref a_isKept, .ref a_keptWidth, .ref a_keptHeight, .ref a_keptBarges, .ref a_keptWall, .ref a_keptKind, .ref a_keptAt, .ref a_keptSize, .ref a_keptWay, .ref a_keptGate, .ref a_out, .int k_outs, .ref a_counts, .ref a_oldNumbers, .int k_seed, .ref a_newWall, .int k_asWidth, .int k_asHeight, .ref a_asAt, .ref a_asGate, .ref a_asWay, .ref a_asWide, .ref a_asTall, .ref a_asWall])), (a_kind, .inl (cT 0, 12, .inl k_kind)), (a_size, .inl (cT 0, 12, .inl k_size)), (a_way, .inl (cT 0, 12, .inl k_way)), (a_who, .inl (cT 0, 64, .inl k_who)), (a_here, .inl (cT 0, 12, .inl k_here))] U.heap ∧ va_K D vwCl (jT cT) U ∧ jNw U)) (vp_Si (fun r => r = r0)) 0 0 (fun _ => False) := by
  refine Met.ofW (cc := cX7_least) (maxL := 8) (ret := (some .int)) (by decide) rfl ?_
  intro p e s m args below meth c s₁ B hml hv
  obtain ⟨rfl, hP, hK, hN⟩ := hv
  have hx := B.exec
  have hb := B.bytes
  have hr := B.returns
  have hts := atoms_spec (ws := wsX7_least) B.pre
  have hown : s.vm.findClass RX7 = some m.cls := findClass_of_methodNamed B.named
  have hlocks := B.notSynchronized
  have hl := lv_entry ([.ref a_t, .int v1, .int v2]) (n := 8) (Nat.le_of_ble_eq_true rfl)
  rw [lg_entry_eq]
  generalize (lg_sl ([.ref a_t, .int v1, .int v2]) ++ List.replicate (8 - (lg_sl ([.ref a_t, .int v1, .int v2])).length) Slot.unset).toArray = ls at hl ⊢
  have hl : lv_has ls 8 [(0, .ref a_t), (1, .int v1), (2, .int v2)] := hl
  unfold f_BargeBasinModel_least at hf
  refine lv_aload_n hx hb dX7_least_0 rfl (lv_at hl 0 rfl) ?_
  refine va_get (D := D) (ci := 7) (v := .ref a_here) (C := RX7) (T := TX7) (N := 72) hx hb hts iw_wsX7_least_X7 hown hK hP 0 rfl rfl 47 (by decide) (hts (.fieldLink RX7 121 "BargeBasinModel" "here" "[I") (List.mem_of_getElem? (i := 1) (by decide +kernel))) (fun _ h9 => h9) rfl dX7_least_1 ?_
  refine lv_iload_n hx hb dX7_least_4 rfl (lv_at hl 1 rfl) ?_
  replace hf := ob_grd hf
  obtain ⟨hi_1, hf⟩ := hf
  refine va_iald hx hb hK hP 5 0 rfl rfl hi_1 dX7_least_5 ?_
  refine lv_bipush (v := 8) hx hb dX7_least_6 (by decide) ?_
  replace hf := ob_div hf
  obtain ⟨hd_2, hf⟩ := hf
  refine lv_irem hx hb dX7_least_8 hd_2 ?_
  refine lv_iload_n hx hb dX7_least_9 rfl (lv_at hl 2 rfl) ?_
  replace hf := ob_b hf
  obtain ⟨zr_3, hc_4, hf⟩ := hf
  refine vp_callSi (W.runS (As := [.int v2]) (rest := [.int ((k_here v1.toNatClampNeg) - (k_here v1.toNatClampNeg) / ((8 : Int32)) * ((8 : Int32)))]) ⟨hx, hb, hml, hown, hts⟩ (c_f_BargeBasinModel_right l D cT v2 _ hc_4) (cwS 1 hts gX7_least_X7_right rfl rfl rfl (by decide +kernel) ⟨Nat.le_of_ble_eq_true rfl, Nat.le_of_ble_eq_true rfl⟩) ⟨fun a U g mk q => q, fun U hU hW => ⟨rfl, trivial⟩⟩ rfl rfl hl.1 rfl (lv_room (Nat.le_of_ble_eq_true rfl)) dX7_least_10 ⟨Nat.le_of_ble_eq_true rfl, Nat.le_of_ble_eq_true rfl⟩) (fun r_3 er_5 => ?_)
  subst er_5
  refine lv_iadd hx hb dX7_least_13 ?_
  refine lv_topi (fun v3_6 ev3_6 => ?_)
  replace hf := ob_nm ev3_6 hf
  refine lv_istore_n (lv' := [(3, .int v3_6), (0, .ref a_t), (1, .int v1), (2, .int v2)]) hx hb dX7_least_14 rfl hl (by decide) rfl (fun ls hl => ?_)
  refine lv_aload_n hx hb dX7_least_15 rfl (lv_at hl 1 rfl) ?_
  refine va_get (D := D) (ci := 7) (v := .ref a_here) (C := RX7) (T := TX7) (N := 72) hx hb hts iw_wsX7_least_X7 hown hK hP 0 rfl rfl 47 (by decide) (hts (.fieldLink RX7 121 "BargeBasinModel" "here" "[I") (List.mem_of_getElem? (i := 1) (by decide +kernel))) (fun _ h9 => h9) rfl dX7_least_16 ?_
  refine lv_iload_n hx hb dX7_least_19 rfl (lv_at hl 2 rfl) ?_
  replace hf := ob_grd hf
  obtain ⟨hi_7, hf⟩ := hf
  refine va_iald hx hb hK hP 5 0 rfl rfl hi_7 dX7_least_20 ?_
  refine lv_bipush (v := 8) hx hb dX7_least_21 (by decide) ?_
  replace hf := ob_div hf
  obtain ⟨hd_8, hf⟩ := hf
  refine lv_idiv hx hb dX7_least_23 hd_8 ?_
  refine lv_iload_n hx hb dX7_least_24 rfl (lv_at hl 3 rfl) ?_
  replace hf := ob_b hf
  obtain ⟨zr_9, hc_10, hf⟩ := hf
  refine vp_callSi (W.runS (As := [.int v2]) (rest := [.int ((k_here v1.toNatClampNeg) / ((8 : Int32)))]) ⟨hx, hb, hml, hown, hts⟩ (c_f_BargeBasinModel_down l D cT v2 _ hc_10) (cwS 1 hts gX7_least_X7_down rfl rfl rfl (by decide +kernel) ⟨Nat.le_of_ble_eq_true rfl, Nat.le_of_ble_eq_true rfl⟩) ⟨fun a U g mk q => q, fun U hU hW => ⟨rfl, trivial⟩⟩ rfl rfl hl.1 rfl (lv_room (Nat.le_of_ble_eq_true rfl)) dX7_least_25 ⟨Nat.le_of_ble_eq_true rfl, Nat.le_of_ble_eq_true rfl⟩) (fun r_9 er_11 => ?_)
  subst er_11
  refine lv_iadd hx hb dX7_least_28 ?_
  refine lv_topi (fun v4_12 ev4_12 => ?_)
  replace hf := ob_nm ev4_12 hf
  refine lv_istore (lv' := [(4, .int v4_12), (3, .int v3_6), (0, .ref a_t), (1, .int v1), (2, .int v2)]) hx hb dX7_least_29 hl (by decide) rfl (fun ls hl => ?_)
  refine lv_bipush (v := 12) hx hb dX7_least_31 (by decide) ?_
  refine lv_istore (lv' := [(5, .int ((12 : Int32))), (4, .int v4_12), (3, .int v3_6), (0, .ref a_t), (1, .int v1), (2, .int v2)]) hx hb dX7_least_33 hl (by decide) rfl (fun ls hl => ?_)
  refine lv_iload hx hb dX7_least_35 (lv_at hl 1 rfl) ?_
  refine lv_istore (lv' := [(6, .int v4_12), (5, .int ((12 : Int32))), (4, .int v4_12), (3, .int v3_6), (0, .ref a_t), (1, .int v1), (2, .int v2)]) hx hb dX7_least_37 hl (by decide) rfl (fun ls hl => ?_)
  replace hf := ob_b hf
  obtain ⟨ex_37, hq_38, hf⟩ := hf
  refine l_f_BargeBasinModel_least_L39 hx hb hml hown hts hK hN hP jN _ _ ex_37 hq_38 ls (lv_sub hl [4, 5, 3, 2, 1, 0] rfl) (fun v5_39 ee_40 ls hl => ?_)
  have ee_40 := ee_40.symm
  subst ee_40
  refine lv_iload hx hb dX7_least_132 (lv_at hl 0 rfl) ?_
  cases hf
  exact W.iret hx hb hr (fun t ht hW => ⟨_, rfl, rfl, ht⟩) (fun q h => by cases h) dX7_least_134
