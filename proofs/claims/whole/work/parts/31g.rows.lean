theorem iw_wsX7_against_X7 : ∀ w ∈ wsX70, w ∈ wsX7_against := fun _ h => List.mem_cons_of_mem _ (List.mem_append_right _ h)
abbrev rm_BargeBasinModel_against : Room := { frames := 2, cells := 0, slots := 0, locals := 42 }
set_option maxHeartbeats 4000000 in
set_option maxRecDepth 100000 in
theorem l_f_BargeBasinModel_against_L62 {p : Program} {l : Launch} {e : Env} {s : State} {m : MethodId} {args : Array Value} {below : List Frame} {meth : Method} {c : Code} {Q : State → Prop} {D : va_G} {cT : Nat → ClassId} {a_t a_lineSort a_lineMany a_numbers a_wall a_kind a_at a_size a_way a_gate a_undoBarge a_undoFrom a_undoTo a_redoBarge a_redoFrom a_redoTo a_planBarge a_planWay a_planSteps a_places a_heads a_chain a_depth a_parent a_byBarge a_byWay a_bySteps a_far a_firstEdge a_edge a_edgeBarge a_count a_who a_here a_isKept a_keptWidth a_keptHeight a_keptBarges a_keptWall a_keptKind a_keptAt a_keptSize a_keptWay a_keptGate a_out a_counts a_oldNumbers a_newWall a_asAt a_asGate a_asWay a_asWide a_asTall a_asWall : Nat} {k_status : Int32} {k_thrown : Int32} {k_has : Int32} {k_width : Int32} {k_height : Int32} {k_barges : Int32} {k_undoMany : Int32} {k_redoMany : Int32} {k_whyStep : Int32} {k_whyWhat : Int32} {k_whyWho : Int32} {k_hasPlan : Int32} {k_planMany : Int32} {k_stands : Int32} {k_edges : Int32} {k_outs : Int32} {k_seed : Int32} {k_asWidth : Int32} {k_asHeight : Int32} {k_wall : Nat → Int32} {k_kind : Nat → Int32} {k_size : Nat → Int32} {k_way : Nat → Int32} {k_who : Nat → Int32} {v1 : Int32} {v2 : Int32} {v3 : Int32} {v6 : Int32} (hx : p.tables.exec = Jvm.exec) (hb : c.code = cX7_against) (hml : c.maxLocals = 8) (hown : s.vm.findClass RX7 = some m.cls) (hts : ∀ w ∈ wsX7_against, w.before args s = true) (hK : va_K D vwCl (jT cT) s) (hN : jNw s) (hP : va_P D vwCl [(a_t, .inr (7, [.int k_status, .int k_thrown, .int k_has, .int k_width, .int k_height, .ref a_lineSort, .ref a_lineMany, .ref a_numbers, .ref a_wall, .int k_barges, .ref a_kind, .ref a_at, .ref a_size, .ref a_way, .ref a_gate, .int k_undoMany, .int k_redoMany, .ref a_undoBarge, .ref a_undoFrom, .ref a_undoTo, .ref a_redoBarge, .ref a_redoFrom, .ref a_redoTo, .int k_whyStep, .int k_whyWhat, .int k_whyWho, .int k_hasPlan, .int k_planMany, .ref a_planBarge, .ref a_planWay, .ref a_planSteps, .int k_stands, .ref a_places, .ref a_heads, .ref a_chain, .ref a_depth, .ref a_parent, .ref a_byBarge, .ref a_byWay, .ref a_bySteps, .ref a_far, .ref a_firstEdge, .ref a_edge, .ref a_edgeBarge, .int k_edges, .ref a_count, .ref a_who, .ref a_here, .ref a_isKept, .ref a_keptWidth, .ref a_keptHeight, .ref a_keptBarges, .ref a_keptWall, .ref a_keptKind, .ref a_keptAt, .ref a_keptSize, .ref a_keptWay, .ref a_keptGate, .ref a_out, .int k_outs, .ref a_counts, .ref a_oldNumbers, .int k_seed, .ref a_newWall, .int k_asWidth, .int k_asHeight, .ref a_asAt, .ref a_asGate, .ref a_asWay, .ref a_asWide, .ref a_asTall, .ref a_asWall])), (a_wall, .inl (cT 2, 64, .inl k_wall)), (a_kind, .inl (cT 0, 12, .inl k_kind)), (a_size, .inl (cT 0, 12, .inl k_size)), (a_way, .inl (cT 0, 12, .inl k_way)), (a_who, .inl (cT 0, 64, .inl k_who))] s.heap) : ∀ (n : Nat) (v4 : Int32) (v5 : Int32) (v7 : Int32) (ex : Int32 × Int32), f_BargeBasinModel_against_L62 v1 v2 v3 v6 k_wall k_kind k_size k_way k_who n v4 v5 v7 = some ex → ∀ (ls : Array Slot), lv_has ls 8 [(0, .ref a_t), (1, .int v1), (2, .int v2), (3, .int v3), (4, .int v4), (5, .int v5), (6, .int v6), (7, .int v7)] → (∀ (v4_31 : Int32) (v5_32 : Int32), ex = (v4_31, v5_32) → ∀ (ls : Array Slot), lv_has ls 8 [(0, .ref a_t), (1, .int v1), (2, .int v2), (3, .int v3), (4, .int v4_31), (5, .int v5_32), (6, .int v6)] → W p l e (headSpec wsX7_against rm_BargeBasinModel_against).room s m args below meth c s.heap [] 0 0 Q (F0 m 153 ls [])) → W p l e (headSpec wsX7_against rm_BargeBasinModel_against).room s m args below meth c s.heap [] 0 0 Q (F0 m 62 ls []) := by
  intro n
  induction n with
  | zero => intro v4 v5 v7 ex hf; exact (ob_none hf).elim
  | succ n ih =>
    intro v4 v5 v7 ex hf ls hl K0
    have J100 : ∀ (v5 : Int32) (v7 : Int32) (s0 : Int32), f_BargeBasinModel_against_J100 (f_BargeBasinModel_against_L62 v1 v2 v3 v6 k_wall k_kind k_size k_way k_who n) v1 v2 v3 v5 v6 v7 s0 k_who = some ex → ∀ (ls : Array Slot), lv_has ls 8 [(0, .ref a_t), (1, .int v1), (2, .int v2), (3, .int v3), (5, .int v5), (6, .int v6), (7, .int v7)] → W p l e (headSpec wsX7_against rm_BargeBasinModel_against).room s m args below meth c s.heap [] 0 0 Q (F0 m 100 ls [.int s0]) := by
      intro v5 v7 s0 hf ls hl
      unfold f_BargeBasinModel_against_J100 at hf
      refine lv_istore (lv' := [(4, .int s0), (0, .ref a_t), (1, .int v1), (2, .int v2), (3, .int v3), (5, .int v5), (6, .int v6), (7, .int v7)]) hx hb dX7_against_100 hl (by decide) rfl (fun ls hl => ?_)
      refine lv_iload hx hb dX7_against_102 (lv_at hl 5 rfl) ?_
      refine lv_if_ne (tgt := 140) hx hb dX7_against_104 (by decide) (fun c_20 => ?_) (fun c_20 => ?_)
      · replace hf := ob_neg c_20 hf
        refine lv_iconst (v := 1) hx hb dX7_against_140 (by decide) ?_
        refine lv_goto (tgt := 145) hx hb dX7_against_141 (by decide) ?_
        refine lv_istore (lv' := [(5, .int ((1 : Int32))), (4, .int s0), (0, .ref a_t), (1, .int v1), (2, .int v2), (3, .int v3), (6, .int v6), (7, .int v7)]) hx hb dX7_against_145 hl (by decide) rfl (fun ls hl => ?_)
        obtain ⟨v7_21, ev7_21⟩ : ∃ y : Int32, y = v7 + 1 := ⟨_, rfl⟩
        replace hf := ob_nm ev7_21 hf
        refine lv_iinc (v := v7_21) (lv' := [(7, .int v7_21), (5, .int ((1 : Int32))), (4, .int s0), (0, .ref a_t), (1, .int v1), (2, .int v2), (3, .int v3), (6, .int v6)]) hx hb dX7_against_147 hl (k := 7) rfl (by rw [ev7_21]; rfl) (by decide) rfl (fun ls hl => ?_)
        refine lv_goto (tgt := 62) hx hb dX7_against_150 (by decide) ?_
        exact ih _ _ _ ex hf ls (lv_sub hl [3, 4, 5, 6, 2, 1, 7, 0] rfl) K0
      · replace hf := ob_pos c_20 hf
        refine lv_aload_n hx hb dX7_against_107 rfl (lv_at hl 1 rfl) ?_
        refine va_get (D := D) (ci := 7) (v := .ref a_who) (C := RX7) (T := TX7) (N := 72) hx hb hts iw_wsX7_against_X7 hown hK hP 0 rfl rfl 46 (by decide) (hts (.fieldLink RX7 118 "BargeBasinModel" "who" "[I") (List.mem_of_getElem? (i := 4) (by decide +kernel))) (fun _ h9 => h9) rfl dX7_against_108 ?_
        refine lv_iload hx hb dX7_against_111 (lv_at hl 7 rfl) ?_
        refine lv_bipush (v := 8) hx hb dX7_against_113 (by decide) ?_
        refine lv_iload hx hb dX7_against_115 (lv_at hl 6 rfl) ?_
        refine lv_imul hx hb dX7_against_117 ?_
        refine lv_iadd hx hb dX7_against_118 ?_
        replace hf := ob_grd hf
        obtain ⟨hi_22, hf⟩ := hf
        refine va_iald hx hb hK hP 5 0 rfl rfl hi_22 dX7_against_119 ?_
        refine lv_if_lt (tgt := 144) hx hb dX7_against_120 (by decide) (fun c_23 => ?_) (fun c_23 => ?_)
        · replace hf := ob_pos c_23 hf
          refine lv_iconst (v := 0) hx hb dX7_against_144 (by decide) ?_
          refine lv_istore (lv' := [(5, .int ((0 : Int32))), (4, .int s0), (0, .ref a_t), (1, .int v1), (2, .int v2), (3, .int v3), (6, .int v6), (7, .int v7)]) hx hb dX7_against_145 hl (by decide) rfl (fun ls hl => ?_)
          obtain ⟨v7_24, ev7_24⟩ : ∃ y : Int32, y = v7 + 1 := ⟨_, rfl⟩
          replace hf := ob_nm ev7_24 hf
          refine lv_iinc (v := v7_24) (lv' := [(7, .int v7_24), (5, .int ((0 : Int32))), (4, .int s0), (0, .ref a_t), (1, .int v1), (2, .int v2), (3, .int v3), (6, .int v6)]) hx hb dX7_against_147 hl (k := 7) rfl (by rw [ev7_24]; rfl) (by decide) rfl (fun ls hl => ?_)
          refine lv_goto (tgt := 62) hx hb dX7_against_150 (by decide) ?_
          exact ih _ _ _ ex hf ls (lv_sub hl [3, 4, 5, 6, 2, 1, 7, 0] rfl) K0
        · replace hf := ob_neg c_23 hf
          refine lv_aload_n hx hb dX7_against_123 rfl (lv_at hl 1 rfl) ?_
          refine va_get (D := D) (ci := 7) (v := .ref a_who) (C := RX7) (T := TX7) (N := 72) hx hb hts iw_wsX7_against_X7 hown hK hP 0 rfl rfl 46 (by decide) (hts (.fieldLink RX7 118 "BargeBasinModel" "who" "[I") (List.mem_of_getElem? (i := 4) (by decide +kernel))) (fun _ h9 => h9) rfl dX7_against_124 ?_
          refine lv_iload hx hb dX7_against_127 (lv_at hl 7 rfl) ?_
          refine lv_bipush (v := 8) hx hb dX7_against_129 (by decide) ?_
          refine lv_iload hx hb dX7_against_131 (lv_at hl 6 rfl) ?_
          refine lv_imul hx hb dX7_against_133 ?_
          refine lv_iadd hx hb dX7_against_134 ?_
          replace hf := ob_grd hf
          obtain ⟨hi_25, hf⟩ := hf
          refine va_iald hx hb hK hP 5 0 rfl rfl hi_25 dX7_against_135 ?_
          refine lv_iload_n hx hb dX7_against_136 rfl (lv_at hl 2 rfl) ?_
          refine lv_icmp_eq (tgt := 144) hx hb dX7_against_137 (by decide) (fun c_26 => ?_) (fun c_26 => ?_)
          · replace hf := ob_pos c_26 hf
            refine lv_iconst (v := 0) hx hb dX7_against_144 (by decide) ?_
            refine lv_istore (lv' := [(5, .int ((0 : Int32))), (4, .int s0), (0, .ref a_t), (1, .int v1), (2, .int v2), (3, .int v3), (6, .int v6), (7, .int v7)]) hx hb dX7_against_145 hl (by decide) rfl (fun ls hl => ?_)
            obtain ⟨v7_27, ev7_27⟩ : ∃ y : Int32, y = v7 + 1 := ⟨_, rfl⟩
            replace hf := ob_nm ev7_27 hf
            refine lv_iinc (v := v7_27) (lv' := [(7, .int v7_27), (5, .int ((0 : Int32))), (4, .int s0), (0, .ref a_t), (1, .int v1), (2, .int v2), (3, .int v3), (6, .int v6)]) hx hb dX7_against_147 hl (k := 7) rfl (by rw [ev7_27]; rfl) (by decide) rfl (fun ls hl => ?_)
            refine lv_goto (tgt := 62) hx hb dX7_against_150 (by decide) ?_
            exact ih _ _ _ ex hf ls (lv_sub hl [3, 4, 5, 6, 2, 1, 7, 0] rfl) K0
          · replace hf := ob_neg c_26 hf
            refine lv_iconst (v := 1) hx hb dX7_against_140 (by decide) ?_
            refine lv_goto (tgt := 145) hx hb dX7_against_141 (by decide) ?_
            refine lv_istore (lv' := [(5, .int ((1 : Int32))), (4, .int s0), (0, .ref a_t), (1, .int v1), (2, .int v2), (3, .int v3), (6, .int v6), (7, .int v7)]) hx hb dX7_against_145 hl (by decide) rfl (fun ls hl => ?_)
            obtain ⟨v7_28, ev7_28⟩ : ∃ y : Int32, y = v7 + 1 := ⟨_, rfl⟩
            replace hf := ob_nm ev7_28 hf
            refine lv_iinc (v := v7_28) (lv' := [(7, .int v7_28), (5, .int ((1 : Int32))), (4, .int s0), (0, .ref a_t), (1, .int v1), (2, .int v2), (3, .int v3), (6, .int v6)]) hx hb dX7_against_147 hl (k := 7) rfl (by rw [ev7_28]; rfl) (by decide) rfl (fun ls hl => ?_)
            refine lv_goto (tgt := 62) hx hb dX7_against_150 (by decide) ?_
            exact ih _ _ _ ex hf ls (lv_sub hl [3, 4, 5, 6, 2, 1, 7, 0] rfl) K0
    have J95 : ∀ (v5 : Int32) (v7 : Int32), f_BargeBasinModel_against_J95 (f_BargeBasinModel_against_L62 v1 v2 v3 v6 k_wall k_kind k_size k_way k_who n) v1 v2 v3 v5 v6 v7 k_who = some ex → ∀ (ls : Array Slot), lv_has ls 8 [(0, .ref a_t), (1, .int v1), (2, .int v2), (3, .int v3), (5, .int v5), (6, .int v6), (7, .int v7)] → W p l e (headSpec wsX7_against rm_BargeBasinModel_against).room s m args below meth c s.heap [] 0 0 Q (F0 m 95 ls []) := by
      intro v5 v7 hf ls hl
      unfold f_BargeBasinModel_against_J95 at hf
      refine lv_iconst (v := 1) hx hb dX7_against_95 (by decide) ?_
      refine lv_goto (tgt := 100) hx hb dX7_against_96 (by decide) ?_
      exact J100 _ _ _ hf ls (lv_sub hl [0, 1, 2, 3, 4, 5, 6] rfl)
    rw [f_BargeBasinModel_against_L62] at hf
    refine lv_iload hx hb dX7_against_62 (lv_at hl 7 rfl) ?_
    refine lv_iload_n hx hb dX7_against_64 rfl (lv_at hl 2 rfl) ?_
    refine lv_aload_n hx hb dX7_against_65 rfl (lv_at hl 0 rfl) ?_
    refine lv_iload_n hx hb dX7_against_66 rfl (lv_at hl 1 rfl) ?_
    replace hf := ob_b hf
    obtain ⟨zr_15, hc_16, hf⟩ := hf
    refine vp_callSi (W.runV (As := [.int v1]) (rest := [.int v2, .int v7]) ⟨hx, hb, hml, hown, hts⟩ (c_f_BargeBasinModel_wide l D cT a_t a_lineSort a_lineMany a_numbers a_wall a_kind a_at a_size a_way a_gate a_undoBarge a_undoFrom a_undoTo a_redoBarge a_redoFrom a_redoTo a_planBarge a_planWay a_planSteps a_places a_heads a_chain a_depth a_parent a_byBarge a_byWay a_bySteps a_far a_firstEdge a_edge a_edgeBarge a_count a_who a_here a_isKept a_keptWidth a_keptHeight a_keptBarges a_keptWall a_keptKind a_keptAt a_keptSize a_keptWay a_keptGate a_out a_counts a_oldNumbers a_newWall a_asAt a_asGate a_asWay a_asWide a_asTall a_asWall k_status k_thrown k_has k_width k_height k_barges k_undoMany k_redoMany k_whyStep k_whyWhat k_whyWho k_hasPlan k_planMany k_stands k_edges k_outs k_seed k_asWidth k_asHeight k_kind k_size k_way v1 _ hc_16) (cwV 1 hts gX7_against_X7_wide rfl rfl rfl (by decide +kernel) ⟨Nat.le_of_ble_eq_true rfl, Nat.le_of_ble_eq_true rfl⟩) ⟨fun a U g mk q => by obtain ⟨q0, qP, qK, qN⟩ := q; exact ⟨q0, qP, va_K.moved (u := U) (U := U.calling g mk a) (Vm.Alike.refl U.vm) qK, jNw_same (u := U) (U := U.calling g mk a) rfl qN⟩, va_recv hK hP (ci := 7) (q0 := 0) rfl rfl, fun U hU hW => ⟨rfl, by rw [hU]; exact hP.sub [0, 2, 3, 4] rfl, va_K.moved hW.alike hK, jNw_warm hW hN⟩⟩ rfl rfl hl.1 rfl (lv_room (Nat.le_of_ble_eq_true rfl)) dX7_against_67 ⟨Nat.le_of_ble_eq_true rfl, Nat.le_of_ble_eq_true rfl⟩) (fun r_15 er_17 => ?_)
    subst er_17
    refine lv_iadd hx hb dX7_against_70 ?_
    refine lv_icmp_ge (tgt := 153) hx hb dX7_against_71 (by decide) (fun c_18 => ?_) (fun c_18 => ?_)
    · replace hf := ob_pos c_18 hf
      cases hf
      exact K0 _ _ rfl ls (lv_sub hl [0, 1, 2, 3, 4, 5, 6] rfl)
    · replace hf := ob_neg c_18 hf
      refine lv_iload hx hb dX7_against_74 (lv_at hl 4 rfl) ?_
      refine lv_if_ne (tgt := 95) hx hb dX7_against_76 (by decide) (fun c_19 => ?_) (fun c_19 => ?_)
      · replace hf := ob_neg c_19 hf
        exact J95 _ _ hf ls (lv_sub hl [0, 1, 2, 3, 5, 6, 7] rfl)
      · replace hf := ob_pos c_19 hf
        refine lv_aload_n hx hb dX7_against_79 rfl (lv_at hl 0 rfl) ?_
        refine va_get (D := D) (ci := 7) (v := .ref a_wall) (C := RX7) (T := TX7) (N := 72) hx hb hts iw_wsX7_against_X7 hown hK hP 0 rfl rfl 8 (by decide) (hts (.fieldLink RX7 19 "BargeBasinModel" "wall" "[Z") (List.mem_of_getElem? (i := 3) (by decide +kernel))) (fun _ h9 => h9) rfl dX7_against_80 ?_
        refine lv_iload hx hb dX7_against_83 (lv_at hl 7 rfl) ?_
        refine lv_bipush (v := 8) hx hb dX7_against_85 (by decide) ?_
        refine lv_iload hx hb dX7_against_87 (lv_at hl 6 rfl) ?_
        refine lv_imul hx hb dX7_against_89 ?_
        refine lv_iadd hx hb dX7_against_90 ?_
        replace hf := ob_grd hf
        obtain ⟨hi_29, hf⟩ := hf
        refine va_zald hx hb hK hP 1 2 rfl rfl hi_29 dX7_against_91 ?_
        refine lv_if_eq (tgt := 99) hx hb dX7_against_92 (by decide) (fun c_30 => ?_) (fun c_30 => ?_)
        · replace hf := ob_pos c_30 hf
          refine lv_iconst (v := 0) hx hb dX7_against_99 (by decide) ?_
          exact J100 _ _ _ hf ls (lv_sub hl [0, 1, 2, 3, 5, 6, 7] rfl)
        · replace hf := ob_neg c_30 hf
          exact J95 _ _ hf ls (lv_sub hl [0, 1, 2, 3, 5, 6, 7] rfl)
set_option maxHeartbeats 4000000 in
set_option maxRecDepth 100000 in
theorem l_f_BargeBasinModel_against_L47 {p : Program} {l : Launch} {e : Env} {s : State} {m : MethodId} {args : Array Value} {below : List Frame} {meth : Method} {c : Code} {Q : State → Prop} {D : va_G} {cT : Nat → ClassId} {a_t a_lineSort a_lineMany a_numbers a_wall a_kind a_at a_size a_way a_gate a_undoBarge a_undoFrom a_undoTo a_redoBarge a_redoFrom a_redoTo a_planBarge a_planWay a_planSteps a_places a_heads a_chain a_depth a_parent a_byBarge a_byWay a_bySteps a_far a_firstEdge a_edge a_edgeBarge a_count a_who a_here a_isKept a_keptWidth a_keptHeight a_keptBarges a_keptWall a_keptKind a_keptAt a_keptSize a_keptWay a_keptGate a_out a_counts a_oldNumbers a_newWall a_asAt a_asGate a_asWay a_asWide a_asTall a_asWall : Nat} {k_status : Int32} {k_thrown : Int32} {k_has : Int32} {k_width : Int32} {k_height : Int32} {k_barges : Int32} {k_undoMany : Int32} {k_redoMany : Int32} {k_whyStep : Int32} {k_whyWhat : Int32} {k_whyWho : Int32} {k_hasPlan : Int32} {k_planMany : Int32} {k_stands : Int32} {k_edges : Int32} {k_outs : Int32} {k_seed : Int32} {k_asWidth : Int32} {k_asHeight : Int32} {k_wall : Nat → Int32} {k_kind : Nat → Int32} {k_size : Nat → Int32} {k_way : Nat → Int32} {k_who : Nat → Int32} {v1 : Int32} {v2 : Int32} {v3 : Int32} (hx : p.tables.exec = Jvm.exec) (hb : c.code = cX7_against) (hml : c.maxLocals = 8) (hown : s.vm.findClass RX7 = some m.cls) (hts : ∀ w ∈ wsX7_against, w.before args s = true) (hK : va_K D vwCl (jT cT) s) (hN : jNw s) (hP : va_P D vwCl [(a_t, .inr (7, [.int k_status, .int k_thrown, .int k_has, .int k_width, .int k_height, .ref a_lineSort, .ref a_lineMany, .ref a_numbers, .ref a_wall, .int k_barges, .ref a_kind, .ref a_at, .ref a_size, .ref a_way, .ref a_gate, .int k_undoMany, .int k_redoMany, .ref a_undoBarge, .ref a_undoFrom, .ref a_undoTo, .ref a_redoBarge, .ref a_redoFrom, .ref a_redoTo, .int k_whyStep, .int k_whyWhat, .int k_whyWho, .int k_hasPlan, .int k_planMany, .ref a_planBarge, .ref a_planWay, .ref a_planSteps, .int k_stands, .ref a_places, .ref a_heads, .ref a_chain, .ref a_depth, .ref a_parent, .ref a_byBarge, .ref a_byWay, .ref a_bySteps, .ref a_far, .ref a_firstEdge, .ref a_edge, .ref a_edgeBarge, .int k_edges, .ref a_count, .ref a_who, .ref a_here, .ref a_isKept, .ref a_keptWidth, .ref a_keptHeight, .ref a_keptBarges, .ref a_keptWall, .ref a_keptKind, .ref a_keptAt, .ref a_keptSize, .ref a_keptWay, .ref a_keptGate, .ref a_out, .int k_outs, .ref a_counts, .ref a_oldNumbers, .int k_seed, .ref a_newWall, .int k_asWidth, .int k_asHeight, .ref a_asAt, .ref a_asGate, .ref a_asWay, .ref a_asWide, .ref a_asTall, .ref a_asWall])), (a_wall, .inl (cT 2, 64, .inl k_wall)), (a_kind, .inl (cT 0, 12, .inl k_kind)), (a_size, .inl (cT 0, 12, .inl k_size)), (a_way, .inl (cT 0, 12, .inl k_way)), (a_who, .inl (cT 0, 64, .inl k_who))] s.heap) : ∀ (n : Nat) (v4 : Int32) (v5 : Int32) (v6 : Int32) (ex : Int32 × Int32), f_BargeBasinModel_against_L47 v1 v2 v3 k_wall k_kind k_size k_way k_who n v4 v5 v6 = some ex → ∀ (ls : Array Slot), lv_has ls 8 [(0, .ref a_t), (1, .int v1), (2, .int v2), (3, .int v3), (4, .int v4), (5, .int v5), (6, .int v6)] → (∀ (v4_39 : Int32) (v5_40 : Int32), ex = (v4_39, v5_40) → ∀ (ls : Array Slot), lv_has ls 8 [(4, .int v4_39), (5, .int v5_40)] → W p l e (headSpec wsX7_against rm_BargeBasinModel_against).room s m args below meth c s.heap [] 0 0 Q (F0 m 159 ls [])) → W p l e (headSpec wsX7_against rm_BargeBasinModel_against).room s m args below meth c s.heap [] 0 0 Q (F0 m 47 ls []) := by
  intro n
  induction n with
  | zero => intro v4 v5 v6 ex hf; exact (ob_none hf).elim
  | succ n ih =>
    intro v4 v5 v6 ex hf ls hl K0
    rw [f_BargeBasinModel_against_L47] at hf
    refine lv_iload hx hb dX7_against_47 (lv_at hl 6 rfl) ?_
    refine lv_iload_n hx hb dX7_against_49 rfl (lv_at hl 3 rfl) ?_
    refine lv_aload_n hx hb dX7_against_50 rfl (lv_at hl 0 rfl) ?_
    refine lv_iload_n hx hb dX7_against_51 rfl (lv_at hl 1 rfl) ?_
    replace hf := ob_b hf
    obtain ⟨zr_11, hc_12, hf⟩ := hf
    refine vp_callSi (W.runV (As := [.int v1]) (rest := [.int v3, .int v6]) ⟨hx, hb, hml, hown, hts⟩ (c_f_BargeBasinModel_tall l D cT a_t a_lineSort a_lineMany a_numbers a_wall a_kind a_at a_size a_way a_gate a_undoBarge a_undoFrom a_undoTo a_redoBarge a_redoFrom a_redoTo a_planBarge a_planWay a_planSteps a_places a_heads a_chain a_depth a_parent a_byBarge a_byWay a_bySteps a_far a_firstEdge a_edge a_edgeBarge a_count a_who a_here a_isKept a_keptWidth a_keptHeight a_keptBarges a_keptWall a_keptKind a_keptAt a_keptSize a_keptWay a_keptGate a_out a_counts a_oldNumbers a_newWall a_asAt a_asGate a_asWay a_asWide a_asTall a_asWall k_status k_thrown k_has k_width k_height k_barges k_undoMany k_redoMany k_whyStep k_whyWhat k_whyWho k_hasPlan k_planMany k_stands k_edges k_outs k_seed k_asWidth k_asHeight k_kind k_size k_way v1 _ hc_12) (cwV 1 hts gX7_against_X7_tall rfl rfl rfl (by decide +kernel) ⟨Nat.le_of_ble_eq_true rfl, Nat.le_of_ble_eq_true rfl⟩) ⟨fun a U g mk q => by obtain ⟨q0, qP, qK, qN⟩ := q; exact ⟨q0, qP, va_K.moved (u := U) (U := U.calling g mk a) (Vm.Alike.refl U.vm) qK, jNw_same (u := U) (U := U.calling g mk a) rfl qN⟩, va_recv hK hP (ci := 7) (q0 := 0) rfl rfl, fun U hU hW => ⟨rfl, by rw [hU]; exact hP.sub [0, 2, 3, 4] rfl, va_K.moved hW.alike hK, jNw_warm hW hN⟩⟩ rfl rfl hl.1 rfl (lv_room (Nat.le_of_ble_eq_true rfl)) dX7_against_52 ⟨Nat.le_of_ble_eq_true rfl, Nat.le_of_ble_eq_true rfl⟩) (fun r_11 er_13 => ?_)
    subst er_13
    refine lv_iadd hx hb dX7_against_55 ?_
    refine lv_icmp_ge (tgt := 159) hx hb dX7_against_56 (by decide) (fun c_14 => ?_) (fun c_14 => ?_)
    · replace hf := ob_pos c_14 hf
      cases hf
      exact K0 _ _ rfl ls (lv_sub hl [4, 5] rfl)
    · replace hf := ob_neg c_14 hf
      refine lv_iload_n hx hb dX7_against_59 rfl (lv_at hl 2 rfl) ?_
      refine lv_istore (lv' := [(7, .int v2), (0, .ref a_t), (1, .int v1), (2, .int v2), (3, .int v3), (4, .int v4), (5, .int v5), (6, .int v6)]) hx hb dX7_against_60 hl (by decide) rfl (fun ls hl => ?_)
      replace hf := ob_b hf
      obtain ⟨ex_33, hq_34, hf⟩ := hf
      refine l_f_BargeBasinModel_against_L62 hx hb hml hown hts hK hN hP jN _ _ _ ex_33 hq_34 ls (lv_sub hl [1, 2, 3, 4, 5, 6, 7, 0] rfl) (fun v4_35 v5_36 ee_38 ls hl => ?_)
      subst ee_38
      replace hf := ob_un2 hf
      obtain ⟨v6_37, ev6_37⟩ : ∃ y : Int32, y = v6 + 1 := ⟨_, rfl⟩
      replace hf := ob_nm ev6_37 hf
      refine lv_iinc (v := v6_37) (lv' := [(6, .int v6_37), (0, .ref a_t), (1, .int v1), (2, .int v2), (3, .int v3), (4, .int v4_35), (5, .int v5_36)]) hx hb dX7_against_153 hl (k := 6) rfl (by rw [ev6_37]; rfl) (by decide) rfl (fun ls hl => ?_)
      refine lv_goto (tgt := 47) hx hb dX7_against_156 (by decide) ?_
      exact ih _ _ _ ex hf ls (lv_sub hl [1, 2, 3, 4, 5, 6, 0] rfl) K0
set_option maxHeartbeats 4000000 in
set_option maxRecDepth 100000 in
theorem c_f_BargeBasinModel_against (l : Launch) (D : va_G) (cT : Nat → ClassId) (a_t a_lineSort a_lineMany a_numbers a_wall a_kind a_at a_size a_way a_gate a_undoBarge a_undoFrom a_undoTo a_redoBarge a_redoFrom a_redoTo a_planBarge a_planWay a_planSteps a_places a_heads a_chain a_depth a_parent a_byBarge a_byWay a_bySteps a_far a_firstEdge a_edge a_edgeBarge a_count a_who a_here a_isKept a_keptWidth a_keptHeight a_keptBarges a_keptWall a_keptKind a_keptAt a_keptSize a_keptWay a_keptGate a_out a_counts a_oldNumbers a_newWall a_asAt a_asGate a_asWay a_asWide a_asTall a_asWall : Nat) (k_status : Int32) (k_thrown : Int32) (k_has : Int32) (k_width : Int32) (k_height : Int32) (k_barges : Int32) (k_undoMany : Int32) (k_redoMany : Int32) (k_whyStep : Int32) (k_whyWhat : Int32) (k_whyWho : Int32) (k_hasPlan : Int32) (k_planMany : Int32) (k_stands : Int32) (k_edges : Int32) (k_outs : Int32) (k_seed : Int32) (k_asWidth : Int32) (k_asHeight : Int32) (k_wall : Nat → Int32) (k_kind : Nat → Int32) (k_size : Nat → Int32) (k_way : Nat → Int32) (k_who : Nat → Int32) (v1 : Int32) (v2 : Int32) (v3 : Int32) (r0 : Int32) (hf : f_BargeBasinModel_against v1 v2 v3 k_width k_height k_wall k_kind k_size k_way k_who = some r0) : Met l yX7_against wsX7_against rm_BargeBasinModel_against (va_Pc [.ref a_t, .int v1, .int v2, .int v3] (fun U => va_P D vwCl [(a_t, .inr (7, [.int k_status, .int k_thrown, .int k_has, .int k_width, .int k_height, .ref a_lineSort, .ref a_lineMany, .ref a_numbers, .ref a_wall, .int k_barges, .ref a_kind, .ref a_at, .ref a_size, .ref a_way, .ref a_gate, .int k_undoMany, .int k_redoMany, .ref a_undoBarge, .ref a_undoFrom, .ref a_undoTo, .ref a_redoBarge, .ref a_redoFrom, .ref a_redoTo, .int k_whyStep, .int k_whyWhat, .int k_whyWho, .int k_hasPlan, .int k_planMany, .ref a_planBarge, .ref a_planWay, .ref a_planSteps, .int k_stands, .ref a_places, .ref a_heads, .ref a_chain, .ref a_depth, .ref a_parent, .ref a_byBarge, .ref a_byWay, .ref a_bySteps, .ref a_far, .ref a_firstEdge, .ref a_edge, .ref a_edgeBarge, .int k_edges, .ref a_count, .ref a_who, .ref a_here, .ref a_isKept, .ref a_keptWidth, .ref a_keptHeight, .ref a_keptBarges, .ref a_keptWall, .ref a_keptKind, .ref a_keptAt, .ref a_keptSize, .ref a_keptWay, .ref a_keptGate, .ref a_out, .int k_outs, .ref a_counts, .ref a_oldNumbers, .int k_seed, .ref a_newWall, .int k_asWidth, .int k_asHeight, .ref a_asAt, .ref a_asGate, .ref a_asWay, .ref a_asWide, .ref a_asTall, .ref a_asWall])), (a_wall, .inl (cT 2, 64, .inl k_wall)), (a_kind, .inl (cT 0, 12, .inl k_kind)), (a_size, .inl (cT 0, 12, .inl k_size)), (a_way, .inl (cT 0, 12, .inl k_way)), (a_who, .inl (cT 0, 64, .inl k_who))] U.heap ∧ va_K D vwCl (jT cT) U ∧ jNw U)) (vp_Si (fun r => r = r0)) 0 0 (fun _ => False) := by
  refine Met.ofW (cc := cX7_against) (maxL := 8) (ret := (some .int)) (by decide) rfl ?_
  intro p e s m args below meth c s₁ B hml hv
  obtain ⟨rfl, hP, hK, hN⟩ := hv
  have hx := B.exec
  have hb := B.bytes
  have hr := B.returns
  have hts := atoms_spec (ws := wsX7_against) B.pre
  have hown : s.vm.findClass RX7 = some m.cls := findClass_of_methodNamed B.named
  have hlocks := B.notSynchronized
  have hl := lv_entry ([.ref a_t, .int v1, .int v2, .int v3]) (n := 8) (Nat.le_of_ble_eq_true rfl)
  rw [lg_entry_eq]
  generalize (lg_sl ([.ref a_t, .int v1, .int v2, .int v3]) ++ List.replicate (8 - (lg_sl ([.ref a_t, .int v1, .int v2, .int v3])).length) Slot.unset).toArray = ls at hl ⊢
  have hl : lv_has ls 8 [(0, .ref a_t), (1, .int v1), (2, .int v2), (3, .int v3)] := hl
  unfold f_BargeBasinModel_against at hf
  refine lv_iload_n hx hb dX7_against_0 rfl (lv_at hl 2 rfl) ?_
  refine lv_if_lt (tgt := 36) hx hb dX7_against_1 (by decide) (fun c_1 => ?_) (fun c_1 => ?_)
  · replace hf := ob_pos c_1 hf
    refine lv_iconst (v := 2) hx hb dX7_against_36 (by decide) ?_
    cases hf
    exact W.iret hx hb hr (fun t ht hW => ⟨_, rfl, rfl, ht⟩) (fun q h => by cases h) dX7_against_37
  · replace hf := ob_neg c_1 hf
    refine lv_iload_n hx hb dX7_against_4 rfl (lv_at hl 3 rfl) ?_
    refine lv_if_lt (tgt := 36) hx hb dX7_against_5 (by decide) (fun c_2 => ?_) (fun c_2 => ?_)
    · replace hf := ob_pos c_2 hf
      refine lv_iconst (v := 2) hx hb dX7_against_36 (by decide) ?_
      cases hf
      exact W.iret hx hb hr (fun t ht hW => ⟨_, rfl, rfl, ht⟩) (fun q h => by cases h) dX7_against_37
    · replace hf := ob_neg c_2 hf
      refine lv_iload_n hx hb dX7_against_8 rfl (lv_at hl 2 rfl) ?_
      refine lv_aload_n hx hb dX7_against_9 rfl (lv_at hl 0 rfl) ?_
      refine lv_iload_n hx hb dX7_against_10 rfl (lv_at hl 1 rfl) ?_
      replace hf := ob_b hf
      obtain ⟨zr_3, hc_4, hf⟩ := hf
      refine vp_callSi (W.runV (As := [.int v1]) (rest := [.int v2]) ⟨hx, hb, hml, hown, hts⟩ (c_f_BargeBasinModel_wide l D cT a_t a_lineSort a_lineMany a_numbers a_wall a_kind a_at a_size a_way a_gate a_undoBarge a_undoFrom a_undoTo a_redoBarge a_redoFrom a_redoTo a_planBarge a_planWay a_planSteps a_places a_heads a_chain a_depth a_parent a_byBarge a_byWay a_bySteps a_far a_firstEdge a_edge a_edgeBarge a_count a_who a_here a_isKept a_keptWidth a_keptHeight a_keptBarges a_keptWall a_keptKind a_keptAt a_keptSize a_keptWay a_keptGate a_out a_counts a_oldNumbers a_newWall a_asAt a_asGate a_asWay a_asWide a_asTall a_asWall k_status k_thrown k_has k_width k_height k_barges k_undoMany k_redoMany k_whyStep k_whyWhat k_whyWho k_hasPlan k_planMany k_stands k_edges k_outs k_seed k_asWidth k_asHeight k_kind k_size k_way v1 _ hc_4) (cwV 1 hts gX7_against_X7_wide rfl rfl rfl (by decide +kernel) ⟨Nat.le_of_ble_eq_true rfl, Nat.le_of_ble_eq_true rfl⟩) ⟨fun a U g mk q => by obtain ⟨q0, qP, qK, qN⟩ := q; exact ⟨q0, qP, va_K.moved (u := U) (U := U.calling g mk a) (Vm.Alike.refl U.vm) qK, jNw_same (u := U) (U := U.calling g mk a) rfl qN⟩, va_recv hK hP (ci := 7) (q0 := 0) rfl rfl, fun U hU hW => ⟨rfl, by rw [hU]; exact hP.sub [0, 2, 3, 4] rfl, va_K.moved hW.alike hK, jNw_warm hW hN⟩⟩ rfl rfl hl.1 rfl (lv_room (Nat.le_of_ble_eq_true rfl)) dX7_against_11 ⟨Nat.le_of_ble_eq_true rfl, Nat.le_of_ble_eq_true rfl⟩) (fun r_3 er_5 => ?_)
      subst er_5
      refine lv_iadd hx hb dX7_against_14 ?_
      refine lv_aload_n hx hb dX7_against_15 rfl (lv_at hl 0 rfl) ?_
      refine va_get (D := D) (ci := 7) (v := .int k_width) (C := RX7) (T := TX7) (N := 72) hx hb hts iw_wsX7_against_X7 hown hK hP 0 rfl rfl 3 (by decide) (hts (.fieldLink RX7 190 "BargeBasinModel" "width" "I") (List.mem_of_getElem? (i := 1) (by decide +kernel))) (fun _ h9 => h9) rfl dX7_against_16 ?_
      refine lv_icmp_gt (tgt := 36) hx hb dX7_against_19 (by decide) (fun c_6 => ?_) (fun c_6 => ?_)
      · replace hf := ob_pos c_6 hf
        refine lv_iconst (v := 2) hx hb dX7_against_36 (by decide) ?_
        cases hf
        exact W.iret hx hb hr (fun t ht hW => ⟨_, rfl, rfl, ht⟩) (fun q h => by cases h) dX7_against_37
      · replace hf := ob_neg c_6 hf
        refine lv_iload_n hx hb dX7_against_22 rfl (lv_at hl 3 rfl) ?_
        refine lv_aload_n hx hb dX7_against_23 rfl (lv_at hl 0 rfl) ?_
        refine lv_iload_n hx hb dX7_against_24 rfl (lv_at hl 1 rfl) ?_
        replace hf := ob_b hf
        obtain ⟨zr_7, hc_8, hf⟩ := hf
        refine vp_callSi (W.runV (As := [.int v1]) (rest := [.int v3]) ⟨hx, hb, hml, hown, hts⟩ (c_f_BargeBasinModel_tall l D cT a_t a_lineSort a_lineMany a_numbers a_wall a_kind a_at a_size a_way a_gate a_undoBarge a_undoFrom a_undoTo a_redoBarge a_redoFrom a_redoTo a_planBarge a_planWay a_planSteps a_places a_heads a_chain a_depth a_parent a_byBarge a_byWay a_bySteps a_far a_firstEdge a_edge a_edgeBarge a_count a_who a_here a_isKept a_keptWidth a_keptHeight a_keptBarges a_keptWall a_keptKind a_keptAt a_keptSize a_keptWay a_keptGate a_out a_counts a_oldNumbers a_newWall a_asAt a_asGate a_asWay a_asWide a_asTall a_asWall k_status k_thrown k_has k_width k_height k_barges k_undoMany k_redoMany k_whyStep k_whyWhat k_whyWho k_hasPlan k_planMany k_stands k_edges k_outs k_seed k_asWidth k_asHeight k_kind k_size k_way v1 _ hc_8) (cwV 1 hts gX7_against_X7_tall rfl rfl rfl (by decide +kernel) ⟨Nat.le_of_ble_eq_true rfl, Nat.le_of_ble_eq_true rfl⟩) ⟨fun a U g mk q => by obtain ⟨q0, qP, qK, qN⟩ := q; exact ⟨q0, qP, va_K.moved (u := U) (U := U.calling g mk a) (Vm.Alike.refl U.vm) qK, jNw_same (u := U) (U := U.calling g mk a) rfl qN⟩, va_recv hK hP (ci := 7) (q0 := 0) rfl rfl, fun U hU hW => ⟨rfl, by rw [hU]; exact hP.sub [0, 2, 3, 4] rfl, va_K.moved hW.alike hK, jNw_warm hW hN⟩⟩ rfl rfl hl.1 rfl (lv_room (Nat.le_of_ble_eq_true rfl)) dX7_against_25 ⟨Nat.le_of_ble_eq_true rfl, Nat.le_of_ble_eq_true rfl⟩) (fun r_7 er_9 => ?_)
        subst er_9
        refine lv_iadd hx hb dX7_against_28 ?_
        refine lv_aload_n hx hb dX7_against_29 rfl (lv_at hl 0 rfl) ?_
        refine va_get (D := D) (ci := 7) (v := .int k_height) (C := RX7) (T := TX7) (N := 72) hx hb hts iw_wsX7_against_X7 hown hK hP 0 rfl rfl 4 (by decide) (hts (.fieldLink RX7 193 "BargeBasinModel" "height" "I") (List.mem_of_getElem? (i := 2) (by decide +kernel))) (fun _ h9 => h9) rfl dX7_against_30 ?_
        refine lv_icmp_le (tgt := 38) hx hb dX7_against_33 (by decide) (fun c_10 => ?_) (fun c_10 => ?_)
        · replace hf := ob_pos c_10 hf
          refine lv_iconst (v := 0) hx hb dX7_against_38 (by decide) ?_
          refine lv_istore (lv' := [(4, .int ((0 : Int32))), (0, .ref a_t), (1, .int v1), (2, .int v2), (3, .int v3)]) hx hb dX7_against_39 hl (by decide) rfl (fun ls hl => ?_)
          refine lv_iconst (v := 0) hx hb dX7_against_41 (by decide) ?_
          refine lv_istore (lv' := [(5, .int ((0 : Int32))), (4, .int ((0 : Int32))), (0, .ref a_t), (1, .int v1), (2, .int v2), (3, .int v3)]) hx hb dX7_against_42 hl (by decide) rfl (fun ls hl => ?_)
          refine lv_iload_n hx hb dX7_against_44 rfl (lv_at hl 5 rfl) ?_
          refine lv_istore (lv' := [(6, .int v3), (5, .int ((0 : Int32))), (4, .int ((0 : Int32))), (0, .ref a_t), (1, .int v1), (2, .int v2), (3, .int v3)]) hx hb dX7_against_45 hl (by decide) rfl (fun ls hl => ?_)
          replace hf := ob_b hf
          obtain ⟨ex_41, hq_42, hf⟩ := hf
          refine l_f_BargeBasinModel_against_L47 hx hb hml hown hts hK hN hP jN _ _ _ ex_41 hq_42 ls (lv_sub hl [3, 4, 5, 6, 2, 1, 0] rfl) (fun v4_43 v5_44 ee_47 ls hl => ?_)
          subst ee_47
          replace hf := ob_un2 hf
          refine lv_iload hx hb dX7_against_159 (lv_at hl 0 rfl) ?_
          refine lv_if_eq (tgt := 168) hx hb dX7_against_161 (by decide) (fun c_45 => ?_) (fun c_45 => ?_)
          · replace hf := ob_pos c_45 hf
            refine lv_iload hx hb dX7_against_168 (lv_at hl 1 rfl) ?_
            refine lv_if_eq (tgt := 177) hx hb dX7_against_170 (by decide) (fun c_46 => ?_) (fun c_46 => ?_)
            · replace hf := ob_pos c_46 hf
              refine lv_iconst (v := 0) hx hb dX7_against_177 (by decide) ?_
              cases hf
              exact W.iret hx hb hr (fun t ht hW => ⟨_, rfl, rfl, ht⟩) (fun q h => by cases h) dX7_against_178
            · replace hf := ob_neg c_46 hf
              refine lv_iconst (v := 4) hx hb dX7_against_173 (by decide) ?_
              refine lv_goto (tgt := 178) hx hb dX7_against_174 (by decide) ?_
              cases hf
              exact W.iret hx hb hr (fun t ht hW => ⟨_, rfl, rfl, ht⟩) (fun q h => by cases h) dX7_against_178
          · replace hf := ob_neg c_45 hf
            refine lv_iconst (v := 3) hx hb dX7_against_164 (by decide) ?_
            refine lv_goto (tgt := 178) hx hb dX7_against_165 (by decide) ?_
            cases hf
            exact W.iret hx hb hr (fun t ht hW => ⟨_, rfl, rfl, ht⟩) (fun q h => by cases h) dX7_against_178
        · replace hf := ob_neg c_10 hf
          refine lv_iconst (v := 2) hx hb dX7_against_36 (by decide) ?_
          cases hf
          exact W.iret hx hb hr (fun t ht hW => ⟨_, rfl, rfl, ht⟩) (fun q h => by cases h) dX7_against_37
abbrev rm_BargeBasinModel_right : Room := { frames := 0, cells := 0, slots := 0, locals := 0 }
set_option maxHeartbeats 4000000 in
set_option maxRecDepth 100000 in
theorem c_f_BargeBasinModel_right (l : Launch) (D : va_G) (cT : Nat → ClassId) (v0 : Int32) (r0 : Int32) (hf : f_BargeBasinModel_right v0 = some r0) : Met l yX7_right wsX7_right rm_BargeBasinModel_right (va_Pc [.int v0] (fun U => True)) (vp_Si (fun r => r = r0)) 0 0 (fun _ => False) := by
  refine Met.ofW (cc := cX7_right) (maxL := 1) (ret := (some .int)) (by decide) rfl ?_
  intro p e s m args below meth c s₁ B hml hv
  obtain ⟨rfl, -⟩ := hv
  have hx := B.exec
  have hb := B.bytes
  have hr := B.returns
  have hts := atoms_spec (ws := wsX7_right) B.pre
  have hown : s.vm.findClass RX7 = some m.cls := findClass_of_methodNamed B.named
  have hlocks := B.notSynchronized
  have hl := lv_entry ([.int v0]) (n := 1) (Nat.le_of_ble_eq_true rfl)
  rw [lg_entry_eq]
  generalize (lg_sl ([.int v0]) ++ List.replicate (1 - (lg_sl ([.int v0])).length) Slot.unset).toArray = ls at hl ⊢
  have hl : lv_has ls 1 [(0, .int v0)] := hl
  unfold f_BargeBasinModel_right at hf
  refine lv_iload_n hx hb dX7_right_0 rfl (lv_at hl 0 rfl) ?_
  refine lv_iconst (v := 1) hx hb dX7_right_1 (by decide) ?_
  refine lv_icmp_ne (tgt := 9) hx hb dX7_right_2 (by decide) (fun c_1 => ?_) (fun c_1 => ?_)
  · replace hf := ob_neg c_1 hf
    refine lv_iload_n hx hb dX7_right_9 rfl (lv_at hl 0 rfl) ?_
    refine lv_iconst (v := 3) hx hb dX7_right_10 (by decide) ?_
    refine lv_icmp_ne (tgt := 18) hx hb dX7_right_11 (by decide) (fun c_2 => ?_) (fun c_2 => ?_)
    · replace hf := ob_neg c_2 hf
      refine lv_iconst (v := 0) hx hb dX7_right_18 (by decide) ?_
      cases hf
      exact W.iret hx hb hr (fun t ht hW => ⟨_, rfl, rfl, ht⟩) (fun q h => by cases h) dX7_right_19
    · replace hf := ob_pos c_2 hf
      refine lv_iconst (v := -1) hx hb dX7_right_14 (by decide) ?_
      refine lv_goto (tgt := 19) hx hb dX7_right_15 (by decide) ?_
      cases hf
      exact W.iret hx hb hr (fun t ht hW => ⟨_, rfl, rfl, ht⟩) (fun q h => by cases h) dX7_right_19
  · replace hf := ob_pos c_1 hf
    refine lv_iconst (v := 1) hx hb dX7_right_5 (by decide) ?_
    refine lv_goto (tgt := 19) hx hb dX7_right_6 (by decide) ?_
    cases hf
    exact W.iret hx hb hr (fun t ht hW => ⟨_, rfl, rfl, ht⟩) (fun q h => by cases h) dX7_right_19
abbrev rm_BargeBasinModel_down : Room := { frames := 0, cells := 0, slots := 0, locals := 0 }
set_option maxHeartbeats 4000000 in
set_option maxRecDepth 100000 in
theorem c_f_BargeBasinModel_down (l : Launch) (D : va_G) (cT : Nat → ClassId) (v0 : Int32) (r0 : Int32) (hf : f_BargeBasinModel_down v0 = some r0) : Met l yX7_down wsX7_down rm_BargeBasinModel_down (va_Pc [.int v0] (fun U => True)) (vp_Si (fun r => r = r0)) 0 0 (fun _ => False) := by
  refine Met.ofW (cc := cX7_down) (maxL := 1) (ret := (some .int)) (by decide) rfl ?_
  intro p e s m args below meth c s₁ B hml hv
  obtain ⟨rfl, -⟩ := hv
  have hx := B.exec
  have hb := B.bytes
  have hr := B.returns
  have hts := atoms_spec (ws := wsX7_down) B.pre
  have hown : s.vm.findClass RX7 = some m.cls := findClass_of_methodNamed B.named
  have hlocks := B.notSynchronized
  have hl := lv_entry ([.int v0]) (n := 1) (Nat.le_of_ble_eq_true rfl)
  rw [lg_entry_eq]
  generalize (lg_sl ([.int v0]) ++ List.replicate (1 - (lg_sl ([.int v0])).length) Slot.unset).toArray = ls at hl ⊢
  have hl : lv_has ls 1 [(0, .int v0)] := hl
  unfold f_BargeBasinModel_down at hf
  refine lv_iload_n hx hb dX7_down_0 rfl (lv_at hl 0 rfl) ?_
  refine lv_iconst (v := 2) hx hb dX7_down_1 (by decide) ?_
  refine lv_icmp_ne (tgt := 9) hx hb dX7_down_2 (by decide) (fun c_1 => ?_) (fun c_1 => ?_)
  · replace hf := ob_neg c_1 hf
    refine lv_iload_n hx hb dX7_down_9 rfl (lv_at hl 0 rfl) ?_
    refine lv_if_ne (tgt := 17) hx hb dX7_down_10 (by decide) (fun c_2 => ?_) (fun c_2 => ?_)
    · replace hf := ob_neg c_2 hf
      refine lv_iconst (v := 0) hx hb dX7_down_17 (by decide) ?_
      cases hf
      exact W.iret hx hb hr (fun t ht hW => ⟨_, rfl, rfl, ht⟩) (fun q h => by cases h) dX7_down_18
    · replace hf := ob_pos c_2 hf
      refine lv_iconst (v := -1) hx hb dX7_down_13 (by decide) ?_
      refine lv_goto (tgt := 18) hx hb dX7_down_14 (by decide) ?_
      cases hf
      exact W.iret hx hb hr (fun t ht hW => ⟨_, rfl, rfl, ht⟩) (fun q h => by cases h) dX7_down_18
  · replace hf := ob_pos c_1 hf
    refine lv_iconst (v := 1) hx hb dX7_down_5 (by decide) ?_
    refine lv_goto (tgt := 18) hx hb dX7_down_6 (by decide) ?_
    cases hf
    exact W.iret hx hb hr (fun t ht hW => ⟨_, rfl, rfl, ht⟩) (fun q h => by cases h) dX7_down_18
theorem iw_wsX7_goes_X7 : ∀ w ∈ wsX70, w ∈ wsX7_goes := fun _ h => List.mem_cons_of_mem _ (List.mem_append_right _ h)
abbrev rm_BargeBasinModel_goes : Room := { frames := 1, cells := 0, slots := 0, locals := 21 }
set_option maxHeartbeats 4000000 in
set_option maxRecDepth 100000 in
theorem c_f_BargeBasinModel_goes (l : Launch) (D : va_G) (cT : Nat → ClassId) (a_t a_lineSort a_lineMany a_numbers a_wall a_kind a_at a_size a_way a_gate a_undoBarge a_undoFrom a_undoTo a_redoBarge a_redoFrom a_redoTo a_planBarge a_planWay a_planSteps a_places a_heads a_chain a_depth a_parent a_byBarge a_byWay a_bySteps a_far a_firstEdge a_edge a_edgeBarge a_count a_who a_here a_isKept a_keptWidth a_keptHeight a_keptBarges a_keptWall a_keptKind a_keptAt a_keptSize a_keptWay a_keptGate a_out a_counts a_oldNumbers a_newWall a_asAt a_asGate a_asWay a_asWide a_asTall a_asWall : Nat) (k_status : Int32) (k_thrown : Int32) (k_has : Int32) (k_width : Int32) (k_height : Int32) (k_barges : Int32) (k_undoMany : Int32) (k_redoMany : Int32) (k_whyStep : Int32) (k_whyWhat : Int32) (k_whyWho : Int32) (k_hasPlan : Int32) (k_planMany : Int32) (k_stands : Int32) (k_edges : Int32) (k_outs : Int32) (k_seed : Int32) (k_asWidth : Int32) (k_asHeight : Int32) (k_kind : Nat → Int32) (k_way : Nat → Int32) (v1 : Int32) (v2 : Int32) (r0 : Int32) (hf : f_BargeBasinModel_goes v1 v2 k_kind k_way = some r0) : Met l yX7_goes wsX7_goes rm_BargeBasinModel_goes (va_Pc [.ref a_t, .int v1, .int v2] (fun U => va_P D vwCl [(a_t, .inr (7, [.int k_status, .int k_thrown, .int k_has, .int k_width, .int k_height, .ref a_lineSort, .ref a_lineMany, .ref a_numbers, .ref a_wall, .int k_barges, .ref a_kind, .ref a_at, .ref a_size, .ref a_way, .ref a_gate, .int k_undoMany, .int k_redoMany, .ref a_undoBarge, .ref a_undoFrom, .ref a_undoTo, .ref a_redoBarge, .ref a_redoFrom, .ref a_redoTo, .int k_whyStep, .int k_whyWhat, .int k_whyWho, .int k_hasPlan, .int k_planMany, .ref a_planBarge, .ref a_planWay, .ref a_planSteps, .int k_stands, .ref a_places, .ref a_heads, .ref a_chain, .ref a_depth, .ref a_parent, .ref a_byBarge, .ref a_byWay, .ref a_bySteps, .ref a_far, .ref a_firstEdge, .ref a_edge, .ref a_edgeBarge, .int k_edges, .ref a_count, .ref a_who, .ref a_here, .ref a_isKept, .ref a_keptWidth, .ref a_keptHeight, .ref a_keptBarges, .ref a_keptWall, .ref a_keptKind, .ref a_keptAt, .ref a_keptSize, .ref a_keptWay, .ref a_keptGate, .ref a_out, .int k_outs, .ref a_counts, .ref a_oldNumbers, .int k_seed, .ref a_newWall, .int k_asWidth, .int k_asHeight, .ref a_asAt, .ref a_asGate, .ref a_asWay, .ref a_asWide, .ref a_asTall, .ref a_asWall])), (a_kind, .inl (cT 0, 12, .inl k_kind)), (a_way, .inl (cT 0, 12, .inl k_way))] U.heap ∧ va_K D vwCl (jT cT) U ∧ jNw U)) (vp_Si (fun r => r = r0)) 0 0 (fun _ => False) := by
  refine Met.ofW (cc := cX7_goes) (maxL := 3) (ret := (some .boolean)) (by decide) rfl ?_
  intro p e s m args below meth c s₁ B hml hv
  obtain ⟨rfl, hP, hK, hN⟩ := hv
  have hx := B.exec
  have hb := B.bytes
  have hr := B.returns
  have hts := atoms_spec (ws := wsX7_goes) B.pre
  have hown : s.vm.findClass RX7 = some m.cls := findClass_of_methodNamed B.named
  have hlocks := B.notSynchronized
  have hl := lv_entry ([.ref a_t, .int v1, .int v2]) (n := 3) (Nat.le_of_ble_eq_true rfl)
  rw [lg_entry_eq]
  generalize (lg_sl ([.ref a_t, .int v1, .int v2]) ++ List.replicate (3 - (lg_sl ([.ref a_t, .int v1, .int v2])).length) Slot.unset).toArray = ls at hl ⊢
  have hl : lv_has ls 3 [(0, .ref a_t), (1, .int v1), (2, .int v2)] := hl
  refine j_nameQ (fun Q hQ => ?_)
  have J22 : ∀ (s0 : Int32), f_BargeBasinModel_goes_J22 v2 s0 = some r0 → ∀ (ls : Array Slot), lv_has ls 3 [(2, .int v2)] → W p l e (headSpec wsX7_goes rm_BargeBasinModel_goes).room s m ([.ref a_t, .int v1, .int v2] : List Value).toArray below meth c s.heap [] 0 0 Q (F0 m 22 ls [.int s0]) := by
    intro s0 hf ls hl
    unfold f_BargeBasinModel_goes_J22 at hf
    refine lv_iload_n hx hb dX7_goes_22 rfl (lv_at hl 0 rfl) ?_
    refine lv_iconst (v := 2) hx hb dX7_goes_23 (by decide) ?_
    replace hf := ob_div hf
    obtain ⟨hd_7, hf⟩ := hf
    refine lv_irem hx hb dX7_goes_24 hd_7 ?_
    refine lv_iconst (v := 1) hx hb dX7_goes_25 (by decide) ?_
    refine lv_icmp_ne (tgt := 33) hx hb dX7_goes_26 (by decide) (fun c_8 => ?_) (fun c_8 => ?_)
    · replace hf := ob_neg c_8 hf
      refine lv_iconst (v := 0) hx hb dX7_goes_33 (by decide) ?_
      refine lv_icmp_ne (tgt := 41) hx hb dX7_goes_34 (by decide) (fun c_9 => ?_) (fun c_9 => ?_)
      · replace hf := ob_neg c_9 hf
        refine lv_iconst (v := 0) hx hb dX7_goes_41 (by decide) ?_
        cases hf
        subst hQ
        exact W.zret hx hb hr (by decide +kernel) (fun t ht hW => ⟨_, rfl, rfl, ht⟩) (fun q h => by cases h) dX7_goes_42
      · replace hf := ob_pos c_9 hf
        refine lv_iconst (v := 1) hx hb dX7_goes_37 (by decide) ?_
        refine lv_goto (tgt := 42) hx hb dX7_goes_38 (by decide) ?_
        cases hf
        subst hQ
        exact W.zret hx hb hr (by decide +kernel) (fun t ht hW => ⟨_, rfl, rfl, ht⟩) (fun q h => by cases h) dX7_goes_42
    · replace hf := ob_pos c_8 hf
      refine lv_iconst (v := 1) hx hb dX7_goes_29 (by decide) ?_
      refine lv_goto (tgt := 34) hx hb dX7_goes_30 (by decide) ?_
      refine lv_icmp_ne (tgt := 41) hx hb dX7_goes_34 (by decide) (fun c_10 => ?_) (fun c_10 => ?_)
      · replace hf := ob_neg c_10 hf
        refine lv_iconst (v := 0) hx hb dX7_goes_41 (by decide) ?_
        cases hf
        subst hQ
        exact W.zret hx hb hr (by decide +kernel) (fun t ht hW => ⟨_, rfl, rfl, ht⟩) (fun q h => by cases h) dX7_goes_42
      · replace hf := ob_pos c_10 hf
        refine lv_iconst (v := 1) hx hb dX7_goes_37 (by decide) ?_
        refine lv_goto (tgt := 42) hx hb dX7_goes_38 (by decide) ?_
        cases hf
        subst hQ
        exact W.zret hx hb hr (by decide +kernel) (fun t ht hW => ⟨_, rfl, rfl, ht⟩) (fun q h => by cases h) dX7_goes_42
  unfold f_BargeBasinModel_goes at hf
  refine lv_aload_n hx hb dX7_goes_0 rfl (lv_at hl 0 rfl) ?_
  refine lv_iload_n hx hb dX7_goes_1 rfl (lv_at hl 1 rfl) ?_
  replace hf := ob_b hf
  obtain ⟨zr_1, hc_2, hf⟩ := hf
  refine vp_callSi (W.runV (As := [.int v1]) (rest := []) ⟨hx, hb, hml, hown, hts⟩ (c_f_BargeBasinModel_isLong l D cT a_t a_lineSort a_lineMany a_numbers a_wall a_kind a_at a_size a_way a_gate a_undoBarge a_undoFrom a_undoTo a_redoBarge a_redoFrom a_redoTo a_planBarge a_planWay a_planSteps a_places a_heads a_chain a_depth a_parent a_byBarge a_byWay a_bySteps a_far a_firstEdge a_edge a_edgeBarge a_count a_who a_here a_isKept a_keptWidth a_keptHeight a_keptBarges a_keptWall a_keptKind a_keptAt a_keptSize a_keptWay a_keptGate a_out a_counts a_oldNumbers a_newWall a_asAt a_asGate a_asWay a_asWide a_asTall a_asWall k_status k_thrown k_has k_width k_height k_barges k_undoMany k_redoMany k_whyStep k_whyWhat k_whyWho k_hasPlan k_planMany k_stands k_edges k_outs k_seed k_asWidth k_asHeight k_kind v1 _ hc_2) (cwV 1 hts gX7_goes_X7_isLong rfl rfl rfl (by decide +kernel) ⟨Nat.le_of_ble_eq_true rfl, Nat.le_of_ble_eq_true rfl⟩) ⟨fun a U g mk q => by obtain ⟨q0, qP, qK, qN⟩ := q; exact ⟨q0, qP, va_K.moved (u := U) (U := U.calling g mk a) (Vm.Alike.refl U.vm) qK, jNw_same (u := U) (U := U.calling g mk a) rfl qN⟩, va_recv hK hP (ci := 7) (q0 := 0) rfl rfl, fun U hU hW => ⟨rfl, by rw [hU]; exact hP.sub [0, 1] rfl, va_K.moved hW.alike hK, jNw_warm hW hN⟩⟩ rfl rfl hl.1 rfl (lv_room (Nat.le_of_ble_eq_true rfl)) dX7_goes_2 ⟨Nat.le_of_ble_eq_true rfl, Nat.le_of_ble_eq_true rfl⟩) (fun r_1 er_3 => ?_)
  subst er_3
  refine lv_if_eq (tgt := 37) hx hb dX7_goes_5 (by decide) (fun c_4 => ?_) (fun c_4 => ?_)
  · replace hf := ob_pos c_4 hf
    refine lv_iconst (v := 1) hx hb dX7_goes_37 (by decide) ?_
    refine lv_goto (tgt := 42) hx hb dX7_goes_38 (by decide) ?_
    cases hf
    subst hQ
    exact W.zret hx hb hr (by decide +kernel) (fun t ht hW => ⟨_, rfl, rfl, ht⟩) (fun q h => by cases h) dX7_goes_42
  · replace hf := ob_neg c_4 hf
    refine lv_aload_n hx hb dX7_goes_8 rfl (lv_at hl 0 rfl) ?_
    refine va_get (D := D) (ci := 7) (v := .ref a_way) (C := RX7) (T := TX7) (N := 72) hx hb hts iw_wsX7_goes_X7 hown hK hP 0 rfl rfl 13 (by decide) (hts (.fieldLink RX7 32 "BargeBasinModel" "way" "[I") (List.mem_of_getElem? (i := 1) (by decide +kernel))) (fun _ h9 => h9) rfl dX7_goes_9 ?_
    refine lv_iload_n hx hb dX7_goes_12 rfl (lv_at hl 1 rfl) ?_
    replace hf := ob_grd hf
    obtain ⟨hi_5, hf⟩ := hf
    refine va_iald hx hb hK hP 2 0 rfl rfl hi_5 dX7_goes_13 ?_
    refine lv_if_ne (tgt := 21) hx hb dX7_goes_14 (by decide) (fun c_6 => ?_) (fun c_6 => ?_)
    · replace hf := ob_neg c_6 hf
      refine lv_iconst (v := 0) hx hb dX7_goes_21 (by decide) ?_
      exact J22 _ hf ls (lv_sub hl [2] rfl)
    · replace hf := ob_pos c_6 hf
      refine lv_iconst (v := 1) hx hb dX7_goes_17 (by decide) ?_
      refine lv_goto (tgt := 22) hx hb dX7_goes_18 (by decide) ?_
      exact J22 _ hf ls (lv_sub hl [2] rfl)
