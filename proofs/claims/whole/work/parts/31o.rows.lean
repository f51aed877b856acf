theorem iw_wsX7_isFreedStand_X7 : ∀ w ∈ wsX70, w ∈ wsX7_isFreedStand := fun _ h => List.mem_cons_of_mem _ (List.mem_append_right _ h)
abbrev rm_BargeBasinModel_isFreedStand : Room := { frames := 0, cells := 0, slots := 0, locals := 0 }
set_option maxHeartbeats 4000000 in
set_option maxRecDepth 100000 in
theorem l_f_BargeBasinModel_isFreedStand_L2 {p : Program} {l : Launch} {e : Env} {s : State} {m : MethodId} {args : Array Value} {below : List Frame} {meth : Method} {c : Code} {Q : State → Prop} {D : va_G} {cT : Nat → ClassId} {a_t a_lineSort a_lineMany a_numbers a_wall a_kind a_at a_size a_way a_gate a_undoBarge a_undoFrom a_undoTo a_redoBarge a_redoFrom a_redoTo a_planBarge a_planWay a_planSteps a_places a_heads a_chain a_depth a_parent a_byBarge a_byWay a_bySteps a_far a_firstEdge a_edge a_edgeBarge a_count a_who a_here a_isKept a_keptWidth a_keptHeight a_keptBarges a_keptWall a_keptKind a_keptAt a_keptSize a_keptWay a_keptGate a_out a_counts a_oldNumbers a_newWall a_asAt a_asGate a_asWay a_asWide a_asTall a_asWall : Nat} {k_status : Int32} {k_thrown : Int32} {k_has : Int32} {k_width : Int32} {k_height : Int32} {k_barges : Int32} {k_undoMany : Int32} {k_redoMany : Int32} {k_whyStep : Int32} {k_whyWhat : Int32} {k_whyWho : Int32} {k_hasPlan : Int32} {k_planMany : Int32} {k_stands : Int32} {k_edges : Int32} {k_outs : Int32} {k_seed : Int32} {k_asWidth : Int32} {k_asHeight : Int32} {k_kind : Nat → Int32} {k_gate : Nat → Int32} {k_places : Nat → Int32} {v1 : Int32} (hx : p.tables.exec = Jvm.exec) (hb : c.code = cX7_isFreedStand) (hml : c.maxLocals = 3) (hown : s.vm.findClass RX7 = some m.cls) (hts : ∀ w ∈ wsX7_isFreedStand, w.before args s = true) (hK : va_K D vwCl (jT cT) s) (hN : jNw s) (hP : va_P D vwCl [(a_t, .inr (7, [.int k_status, .int k_thrown, .int k_has, .int k_width, .int k_height, .ref a_lineSort, .ref a_lineMany, .ref a_numbers, .ref a_wall, .int k_barges, .ref a_kind, .ref a_at, .ref a_size, .ref a_way, .ref a_gate, .int k_undoMany, .int k_redoMany, .ref a_undoBarge, .ref a_undoFrom, .ref a_undoTo, .ref a_redoBarge, .ref a_redoFrom, .ref a_redoTo, .int k_whyStep, .int k_whyWhat, .int k_whyWho, .int k_hasPlan, .int k_planMany, .ref a_planBarge, .ref a_planWay, .ref a_planSteps, .int k_stands, .ref a_places, .ref a_heads, .ref a_chain, .ref a_depth, .ref a_parent, .ref a_byBarge, .ref a_byWay, .ref a_bySteps, .ref a_far, .ref a_firstEdge, .ref a_edge, .ref a_edgeBarge, .int k_edges, .ref a_count, .ref a_who, .ref a_here, .ref a_isKept, .ref a_keptWidth, .ref a_keptHeight, .ref a_keptBarges, .ref a_keptWall, .ref a_keptKind, .ref a_keptAt, .ref a_keptSize, .ref a_keptWay, .ref a_keptGate, .ref a_out, .int k_outs, .ref a_counts, .ref a_oldNumbers, .int k_seed, .ref a_newWall, .int k_asWidth, .int k_asHeight, .ref a_asAt, .ref a_asGate, .ref a_asWay, .ref a_asWide, .ref a_asTall, .ref a_asWall])), (a_kind, .inl (cT 0, 12, .inl k_kind)), (a_gate, .inl (cT 0, 12, .inl k_gate)), (a_places, .inl (cT 3, 72012, .inl k_places))] s.heap) : ∀ (n : Nat) (v2 : Int32) (ex : (Unit) ⊕ (Unit)), f_BargeBasinModel_isFreedStand_L2 v1 k_barges k_kind k_gate k_places n v2 = some ex → ∀ (ls : Array Slot), lv_has ls 3 [(0, .ref a_t), (1, .int v1), (2, .int v2)] → (ex = .inl (()) → ∀ (ls : Array Slot), lv_has ls 3 [] → W p l e (headSpec wsX7_isFreedStand rm_BargeBasinModel_isFreedStand).room s m args below meth c s.heap [] 0 0 Q (F0 m 40 ls [])) → (ex = .inr (()) → ∀ (ls : Array Slot), lv_has ls 3 [] → W p l e (headSpec wsX7_isFreedStand rm_BargeBasinModel_isFreedStand).room s m args below meth c s.heap [] 0 0 Q (F0 m 48 ls [])) → W p l e (headSpec wsX7_isFreedStand rm_BargeBasinModel_isFreedStand).room s m args below meth c s.heap [] 0 0 Q (F0 m 2 ls []) := by
  intro n
  induction n with
  | zero => intro v2 ex hf; exact (ob_none hf).elim
  | succ n ih =>
    intro v2 ex hf ls hl K0 K1
    rw [f_BargeBasinModel_isFreedStand_L2] at hf
    refine lv_iload_n hx hb dX7_isFreedStand_2 rfl (lv_at hl 2 rfl) ?_
    refine lv_aload_n hx hb dX7_isFreedStand_3 rfl (lv_at hl 0 rfl) ?_
    refine va_get (D := D) (ci := 7) (v := .int k_barges) (C := RX7) (T := TX7) (N := 72) hx hb hts iw_wsX7_isFreedStand_X7 hown hK hP 0 rfl rfl 9 (by decide) (hts (.fieldLink RX7 216 "BargeBasinModel" "barges" "I") (List.mem_of_getElem? (i := 1) (by decide +kernel))) (fun _ h9 => h9) rfl dX7_isFreedStand_4 ?_
    refine lv_icmp_ge (tgt := 48) hx hb dX7_isFreedStand_7 (by decide) (fun c_1 => ?_) (fun c_1 => ?_)
    · replace hf := ob_pos c_1 hf
      cases hf
      exact K1 rfl ls (lv_sub hl [] rfl)
    · replace hf := ob_neg c_1 hf
      refine lv_aload_n hx hb dX7_isFreedStand_10 rfl (lv_at hl 0 rfl) ?_
      refine va_get (D := D) (ci := 7) (v := .ref a_kind) (C := RX7) (T := TX7) (N := 72) hx hb hts iw_wsX7_isFreedStand_X7 hown hK hP 0 rfl rfl 10 (by decide) (hts (.fieldLink RX7 23 "BargeBasinModel" "kind" "[I") (List.mem_of_getElem? (i := 2) (by decide +kernel))) (fun _ h9 => h9) rfl dX7_isFreedStand_11 ?_
      refine lv_iload_n hx hb dX7_isFreedStand_14 rfl (lv_at hl 2 rfl) ?_
      replace hf := ob_grd hf
      obtain ⟨hi_2, hf⟩ := hf
      refine va_iald hx hb hK hP 1 0 rfl rfl hi_2 dX7_isFreedStand_15 ?_
      refine lv_iconst (v := 5) hx hb dX7_isFreedStand_16 (by decide) ?_
      refine lv_icmp_ne (tgt := 42) hx hb dX7_isFreedStand_17 (by decide) (fun c_3 => ?_) (fun c_3 => ?_)
      · replace hf := ob_neg c_3 hf
        obtain ⟨v2_4, ev2_4⟩ : ∃ y : Int32, y = v2 + 1 := ⟨_, rfl⟩
        replace hf := ob_nm ev2_4 hf
        refine lv_iinc (v := v2_4) (lv' := [(2, .int v2_4), (0, .ref a_t), (1, .int v1)]) hx hb dX7_isFreedStand_42 hl (k := 2) rfl (by rw [ev2_4]; rfl) (by decide) rfl (fun ls hl => ?_)
        refine lv_goto (tgt := 2) hx hb dX7_isFreedStand_45 (by decide) ?_
        exact ih _ ex hf ls (lv_sub hl [1, 2, 0] rfl) K0 K1
      · replace hf := ob_pos c_3 hf
        refine lv_aload_n hx hb dX7_isFreedStand_20 rfl (lv_at hl 0 rfl) ?_
        refine va_get (D := D) (ci := 7) (v := .ref a_places) (C := RX7) (T := TX7) (N := 72) hx hb hts iw_wsX7_isFreedStand_X7 hown hK hP 0 rfl rfl 32 (by decide) (hts (.fieldLink RX7 76 "BargeBasinModel" "places" "[B") (List.mem_of_getElem? (i := 3) (by decide +kernel))) (fun _ h9 => h9) rfl dX7_isFreedStand_21 ?_
        refine lv_bipush (v := 12) hx hb dX7_isFreedStand_24 (by decide) ?_
        refine lv_iload_n hx hb dX7_isFreedStand_26 rfl (lv_at hl 1 rfl) ?_
        refine lv_imul hx hb dX7_isFreedStand_27 ?_
        refine lv_iload_n hx hb dX7_isFreedStand_28 rfl (lv_at hl 2 rfl) ?_
        refine lv_iadd hx hb dX7_isFreedStand_29 ?_
        replace hf := ob_grd hf
        obtain ⟨hi_5, hf⟩ := hf
        refine va_bald hx hb hK hP 3 3 rfl rfl hi_5 dX7_isFreedStand_30 ?_
        refine lv_aload_n hx hb dX7_isFreedStand_31 rfl (lv_at hl 0 rfl) ?_
        refine va_get (D := D) (ci := 7) (v := .ref a_gate) (C := RX7) (T := TX7) (N := 72) hx hb hts iw_wsX7_isFreedStand_X7 hown hK hP 0 rfl rfl 14 (by decide) (hts (.fieldLink RX7 35 "BargeBasinModel" "gate" "[I") (List.mem_of_getElem? (i := 4) (by decide +kernel))) (fun _ h9 => h9) rfl dX7_isFreedStand_32 ?_
        refine lv_iload_n hx hb dX7_isFreedStand_35 rfl (lv_at hl 2 rfl) ?_
        replace hf := ob_grd hf
        obtain ⟨hi_6, hf⟩ := hf
        refine va_iald hx hb hK hP 2 0 rfl rfl hi_6 dX7_isFreedStand_36 ?_
        refine lv_icmp_eq (tgt := 42) hx hb dX7_isFreedStand_37 (by decide) (fun c_7 => ?_) (fun c_7 => ?_)
        · replace hf := ob_pos c_7 hf
          obtain ⟨v2_8, ev2_8⟩ : ∃ y : Int32, y = v2 + 1 := ⟨_, rfl⟩
          replace hf := ob_nm ev2_8 hf
          refine lv_iinc (v := v2_8) (lv' := [(2, .int v2_8), (0, .ref a_t), (1, .int v1)]) hx hb dX7_isFreedStand_42 hl (k := 2) rfl (by rw [ev2_8]; rfl) (by decide) rfl (fun ls hl => ?_)
          refine lv_goto (tgt := 2) hx hb dX7_isFreedStand_45 (by decide) ?_
          exact ih _ ex hf ls (lv_sub hl [1, 2, 0] rfl) K0 K1
        · replace hf := ob_neg c_7 hf
          cases hf
          exact K0 rfl ls (lv_sub hl [] rfl)
set_option maxHeartbeats 4000000 in
set_option maxRecDepth 100000 in
theorem c_f_BargeBasinModel_isFreedStand (l : Launch) (D : va_G) (cT : Nat → ClassId) (a_t a_lineSort a_lineMany a_numbers a_wall a_kind a_at a_size a_way a_gate a_undoBarge a_undoFrom a_undoTo a_redoBarge a_redoFrom a_redoTo a_planBarge a_planWay a_planSteps a_places a_heads a_chain a_depth a_parent a_byBarge a_byWay a_bySteps a_far a_firstEdge a_edge a_edgeBarge a_count a_who a_here a_isKept a_keptWidth a_keptHeight a_keptBarges a_keptWall a_keptKind a_keptAt a_keptSize a_keptWay a_keptGate a_out a_counts a_oldNumbers a_newWall a_asAt a_asGate a_asWay a_asWide a_asTall a_asWall : Nat) (k_status : Int32) (k_thrown : Int32) (k_has : Int32) (k_width : Int32) (k_height : Int32) (k_barges : Int32) (k_undoMany : Int32) (k_redoMany : Int32) (k_whyStep : Int32) (k_whyWhat : Int32) (k_whyWho : Int32) (k_hasPlan : Int32) (k_planMany : Int32) (k_stands : Int32) (k_edges : Int32) (k_outs : Int32) (k_seed : Int32) (k_asWidth : Int32) (k_asHeight : Int32) (k_kind : Nat → Int32) (k_gate : Nat → Int32) (k_places : Nat → Int32) (v1 : Int32) (r0 : Int32) (hf : f_BargeBasinModel_isFreedStand v1 k_barges k_kind k_gate k_places = some r0) : Met l yX7_isFreedStand wsX7_isFreedStand rm_BargeBasinModel_isFreedStand (va_Pc [.ref a_t, .int v1] (fun U => va_P D vwCl [(a_t, .inr (7, [.int k_status, .int k_thrown, .int k_has, .int k_width, .int k_height, .ref a_lineSort, .ref a_lineMany, .ref a_numbers, .ref a_wall, .int k_barges, .ref a_kind, .ref a_at, .ref a_size, .ref a_way, .ref a_gate, .int k_undoMany, .int k_redoMany, .ref a_undoBarge, .ref a_undoFrom, .ref a_undoTo, .ref a_redoBarge, .ref a_redoFrom, .ref a_redoTo, .int k_whyStep, .int k_whyWhat, .int k_whyWho, .int k_hasPlan, .int k_planMany, .ref a_planBarge, .ref a_planWay, .ref a_planSteps, .int k_stands, .ref a_places, .ref a_heads, .ref a_chain, .ref a_depth, .ref a_parent, .ref a_byBarge, .ref a_byWay, .ref a_bySteps, .ref a_far, .ref a_firstEdge, .ref a_edge, .ref a_edgeBarge, .int k_edges, .ref a_count, .ref a_who, .ref a_here, .ref a_isKept, .ref a_keptWidth, .ref a_keptHeight, .ref a_keptBarges, .ref a_keptWall, .ref a_keptKind, .ref a_keptAt, .ref a_keptSize, .ref a_keptWay, .ref a_keptGate, .ref a_out, .int k_outs, .ref a_counts, .ref a_oldNumbers, .int k_seed, .ref a_newWall, .int k_asWidth, .int k_asHeight, .ref a_asAt, .ref a_asGate, .ref a_asWay, .ref a_asWide, .ref a_asTall, .ref a_asWall])), (a_kind, .inl (cT 0, 12, .inl k_kind)), (a_gate, .inl (cT 0, 12, .inl k_gate)), (a_places, .inl (cT 3, 72012, .inl k_places))] U.heap ∧ va_K D vwCl (jT cT) U ∧ jNw U)) (vp_Si (fun r => r = r0)) 0 0 (fun _ => False) := by
  refine Met.ofW (cc := cX7_isFreedStand) (maxL := 3) (ret := (some .boolean)) (by decide) rfl ?_
  intro p e s m args below meth c s₁ B hml hv
  obtain ⟨rfl, hP, hK, hN⟩ := hv
  have hx := B.exec
  have hb := B.bytes
  have hr := B.returns
  have hts := atoms_spec (ws := wsX7_isFreedStand) B.pre
  have hown : s.vm.findClass RX7 = some m.cls := findClass_of_methodNamed B.named
  have hlocks := B.notSynchronized
  have hl := lv_entry ([.ref a_t, .int v1]) (n := 3) (Nat.le_of_ble_eq_true rfl)
  rw [lg_entry_eq]
  generalize (lg_sl ([.ref a_t, .int v1]) ++ List.replicate (3 - (lg_sl ([.ref a_t, .int v1])).length) Slot.unset).toArray = ls at hl ⊢
  have hl : lv_has ls 3 [(0, .ref a_t), (1, .int v1)] := hl
  unfold f_BargeBasinModel_isFreedStand at hf
  refine lv_iconst (v := 0) hx hb dX7_isFreedStand_0 (by decide) ?_
  refine lv_istore_n (lv' := [(2, .int ((0 : Int32))), (0, .ref a_t), (1, .int v1)]) hx hb dX7_isFreedStand_1 rfl hl (by decide) rfl (fun ls hl => ?_)
  replace hf := ob_b hf
  obtain ⟨ex_9, hq_10, hf⟩ := hf
  refine l_f_BargeBasinModel_isFreedStand_L2 hx hb hml hown hts hK hN hP jN _ ex_9 hq_10 ls (lv_sub hl [1, 2, 0] rfl) (fun ee_11 ls hl => ?_) (fun ee_12 ls hl => ?_)
  · subst ee_11
    replace hf := ob_inl hf
    replace hf := ob_un0 hf
    refine lv_iconst (v := 0) hx hb dX7_isFreedStand_40 (by decide) ?_
    cases hf
    exact W.zret hx hb hr (by decide +kernel) (fun t ht hW => ⟨_, rfl, rfl, ht⟩) (fun q h => by cases h) dX7_isFreedStand_41
  · subst ee_12
    replace hf := ob_inr hf
    replace hf := ob_un0 hf
    refine lv_iconst (v := 1) hx hb dX7_isFreedStand_48 (by decide) ?_
    cases hf
    exact W.zret hx hb hr (by decide +kernel) (fun t ht hW => ⟨_, rfl, rfl, ht⟩) (fun q h => by cases h) dX7_isFreedStand_49
theorem iw_wsX7_firstFreed_X7 : ∀ w ∈ wsX70, w ∈ wsX7_firstFreed := fun _ h => List.mem_cons_of_mem _ (List.mem_append_right _ h)
abbrev rm_BargeBasinModel_firstFreed : Room := { frames := 1, cells := 0, slots := 0, locals := 22 }
set_option maxHeartbeats 4000000 in
set_option maxRecDepth 100000 in
theorem l_f_BargeBasinModel_firstFreed_L2 {p : Program} {l : Launch} {e : Env} {s : State} {m : MethodId} {args : Array Value} {below : List Frame} {meth : Method} {c : Code} {Q : State → Prop} {D : va_G} {cT : Nat → ClassId} {a_t a_lineSort a_lineMany a_numbers a_wall a_kind a_at a_size a_way a_gate a_undoBarge a_undoFrom a_undoTo a_redoBarge a_redoFrom a_redoTo a_planBarge a_planWay a_planSteps a_places a_heads a_chain a_depth a_parent a_byBarge a_byWay a_bySteps a_far a_firstEdge a_edge a_edgeBarge a_count a_who a_here a_isKept a_keptWidth a_keptHeight a_keptBarges a_keptWall a_keptKind a_keptAt a_keptSize a_keptWay a_keptGate a_out a_counts a_oldNumbers a_newWall a_asAt a_asGate a_asWay a_asWide a_asTall a_asWall : Nat} {k_status : Int32} {k_thrown : Int32} {k_has : Int32} {k_width : Int32} {k_height : Int32} {k_barges : Int32} {k_undoMany : Int32} {k_redoMany : Int32} {k_whyStep : Int32} {k_whyWhat : Int32} {k_whyWho : Int32} {k_hasPlan : Int32} {k_planMany : Int32} {k_stands : Int32} {k_edges : Int32} {k_outs : Int32} {k_seed : Int32} {k_asWidth : Int32} {k_asHeight : Int32} {k_kind : Nat → Int32} {k_gate : Nat → Int32} {k_places : Nat → Int32} (hx : p.tables.exec = Jvm.exec) (hb : c.code = cX7_firstFreed) (hml : c.maxLocals = 2) (hown : s.vm.findClass RX7 = some m.cls) (hts : ∀ w ∈ wsX7_firstFreed, w.before args s = true) (hK : va_K D vwCl (jT cT) s) (hN : jNw s) (hP : va_P D vwCl [(a_t, .inr (7, [.int k_status, .int k_thrown, .int k_has, .int k_width, .int k_height, .ref a_lineSort, .ref a_lineMany, .ref a_numbers, .ref a_wall, .int k_barges, .ref a_kind, .ref a_at, .ref a_size, .ref a_way, .ref a_gate, .int k_undoMany, .int k_redoMany, .ref a_undoBarge, .ref a_undoFrom, .ref a_undoTo, .ref a_redoBarge, .ref a_redoFrom, .ref a_redoTo, .int k_whyStep, .int k_whyWhat, .int k_whyWho, .int k_hasPlan, .int k_planMany, .ref a_planBarge, .ref a_planWay, .ref a_planSteps, .int k_stands, .ref a_places, .ref a_heads, .ref a_chain, .ref a_depth, .ref a_parent, .ref a_byBarge, .ref a_byWay, .ref a_bySteps, .ref a_far, .ref a_firstEdge, .ref a_edge, .ref a_edgeBarge, .int k_edges, .ref a_count, .ref a_who, .ref a_here, .ref a_isKept, .ref a_keptWidth, .ref a_keptHeight, .ref a_keptBarges, .ref a_keptWall, .ref a_keptKind, .ref a_keptAt, .ref a_keptSize, .ref a_keptWay, .ref a_keptGate, .ref a_out, .int k_outs, .ref a_counts, .ref a_oldNumbers, .int k_seed, .ref a_newWall, .int k_asWidth, .int k_asHeight, .ref a_asAt, .ref a_asGate, .ref a_asWay, .ref a_asWide, .ref a_asTall, .ref a_asWall])), (a_kind, .inl (cT 0, 12, .inl k_kind)), (a_gate, .inl (cT 0, 12, .inl k_gate)), (a_places, .inl (cT 3, 72012, .inl k_places))] s.heap) : ∀ (n : Nat) (v1 : Int32) (ex : Int32), f_BargeBasinModel_firstFreed_L2 k_barges k_stands k_kind k_gate k_places n v1 = some ex → ∀ (ls : Array Slot), lv_has ls 2 [(0, .ref a_t), (1, .int v1)] → (∀ (v1_7 : Int32), ex = v1_7 → ∀ (ls : Array Slot), lv_has ls 2 [(0, .ref a_t), (1, .int v1_7)] → W p l e (headSpec wsX7_firstFreed rm_BargeBasinModel_firstFreed).room s m args below meth c s.heap [] 0 0 Q (F0 m 24 ls [])) → W p l e (headSpec wsX7_firstFreed rm_BargeBasinModel_firstFreed).room s m args below meth c s.heap [] 0 0 Q (F0 m 2 ls []) := by
  intro n
  induction n with
  | zero => intro v1 ex hf; exact (ob_none hf).elim
  | succ n ih =>
    intro v1 ex hf ls hl K0
    rw [f_BargeBasinModel_firstFreed_L2] at hf
    refine lv_iload_n hx hb dX7_firstFreed_2 rfl (lv_at hl 1 rfl) ?_
    refine lv_aload_n hx hb dX7_firstFreed_3 rfl (lv_at hl 0 rfl) ?_
    refine va_get (D := D) (ci := 7) (v := .int k_stands) (C := RX7) (T := TX7) (N := 72) hx hb hts iw_wsX7_firstFreed_X7 hown hK hP 0 rfl rfl 31 (by decide) (hts (.fieldLink RX7 256 "BargeBasinModel" "stands" "I") (List.mem_of_getElem? (i := 1) (by decide +kernel))) (fun _ h9 => h9) rfl dX7_firstFreed_4 ?_
    refine lv_icmp_ge (tgt := 24) hx hb dX7_firstFreed_7 (by decide) (fun c_1 => ?_) (fun c_1 => ?_)
    · replace hf := ob_pos c_1 hf
      cases hf
      exact K0 _ rfl ls (lv_sub hl [0, 1] rfl)
    · replace hf := ob_neg c_1 hf
      refine lv_aload_n hx hb dX7_firstFreed_10 rfl (lv_at hl 0 rfl) ?_
      refine lv_iload_n hx hb dX7_firstFreed_11 rfl (lv_at hl 1 rfl) ?_
      replace hf := ob_b hf
      obtain ⟨zr_2, hc_3, hf⟩ := hf
      refine vp_callSi (W.runV (As := [.int v1]) (rest := []) ⟨hx, hb, hml, hown, hts⟩ (c_f_BargeBasinModel_isFreedStand l D cT a_t a_lineSort a_lineMany a_numbers a_wall a_kind a_at a_size a_way a_gate a_undoBarge a_undoFrom a_undoTo a_redoBarge a_redoFrom a_redoTo a_planBarge a_planWay a_planSteps a_places a_heads a_chain a_depth a_parent a_byBarge a_byWay a_bySteps a_far a_firstEdge a_edge a_edgeBarge a_count a_who a_here a_isKept a_keptWidth a_keptHeight a_keptBarges a_keptWall a_keptKind a_keptAt a_keptSize a_keptWay a_keptGate a_out a_counts a_oldNumbers a_newWall a_asAt a_asGate a_asWay a_asWide a_asTall a_asWall k_status k_thrown k_has k_width k_height k_barges k_undoMany k_redoMany k_whyStep k_whyWhat k_whyWho k_hasPlan k_planMany k_stands k_edges k_outs k_seed k_asWidth k_asHeight k_kind k_gate k_places v1 _ hc_3) (cwV 1 hts gX7_firstFreed_X7_isFreedStand rfl rfl rfl (by decide +kernel) ⟨Nat.le_of_ble_eq_true rfl, Nat.le_of_ble_eq_true rfl⟩) ⟨fun a U g mk q => by obtain ⟨q0, qP, qK, qN⟩ := q; exact ⟨q0, qP, va_K.moved (u := U) (U := U.calling g mk a) (Vm.Alike.refl U.vm) qK, jNw_same (u := U) (U := U.calling g mk a) rfl qN⟩, va_recv hK hP (ci := 7) (q0 := 0) rfl rfl, fun U hU hW => ⟨rfl, by rw [hU]; exact hP.sub [0, 1, 2, 3] rfl, va_K.moved hW.alike hK, jNw_warm hW hN⟩⟩ rfl rfl hl.1 rfl (lv_room (Nat.le_of_ble_eq_true rfl)) dX7_firstFreed_12 ⟨Nat.le_of_ble_eq_true rfl, Nat.le_of_ble_eq_true rfl⟩) (fun r_2 er_4 => ?_)
      subst er_4
      refine lv_if_ne (tgt := 24) hx hb dX7_firstFreed_15 (by decide) (fun c_5 => ?_) (fun c_5 => ?_)
      · replace hf := ob_neg c_5 hf
        cases hf
        exact K0 _ rfl ls (lv_sub hl [0, 1] rfl)
      · replace hf := ob_pos c_5 hf
        obtain ⟨v1_6, ev1_6⟩ : ∃ y : Int32, y = v1 + 1 := ⟨_, rfl⟩
        replace hf := ob_nm ev1_6 hf
        refine lv_iinc (v := v1_6) (lv' := [(1, .int v1_6), (0, .ref a_t)]) hx hb dX7_firstFreed_18 hl (k := 1) rfl (by rw [ev1_6]; rfl) (by decide) rfl (fun ls hl => ?_)
        refine lv_goto (tgt := 2) hx hb dX7_firstFreed_21 (by decide) ?_
        exact ih _ ex hf ls (lv_sub hl [1, 0] rfl) K0
set_option maxHeartbeats 4000000 in
set_option maxRecDepth 100000 in
theorem c_f_BargeBasinModel_firstFreed (l : Launch) (D : va_G) (cT : Nat → ClassId) (a_t a_lineSort a_lineMany a_numbers a_wall a_kind a_at a_size a_way a_gate a_undoBarge a_undoFrom a_undoTo a_redoBarge a_redoFrom a_redoTo a_planBarge a_planWay a_planSteps a_places a_heads a_chain a_depth a_parent a_byBarge a_byWay a_bySteps a_far a_firstEdge a_edge a_edgeBarge a_count a_who a_here a_isKept a_keptWidth a_keptHeight a_keptBarges a_keptWall a_keptKind a_keptAt a_keptSize a_keptWay a_keptGate a_out a_counts a_oldNumbers a_newWall a_asAt a_asGate a_asWay a_asWide a_asTall a_asWall : Nat) (k_status : Int32) (k_thrown : Int32) (k_has : Int32) (k_width : Int32) (k_height : Int32) (k_barges : Int32) (k_undoMany : Int32) (k_redoMany : Int32) (k_whyStep : Int32) (k_whyWhat : Int32) (k_whyWho : Int32) (k_hasPlan : Int32) (k_planMany : Int32) (k_stands : Int32) (k_edges : Int32) (k_outs : Int32) (k_seed : Int32) (k_asWidth : Int32) (k_asHeight : Int32) (k_kind : Nat → Int32) (k_gate : Nat → Int32) (k_places : Nat → Int32) (r0 : Int32) (hf : f_BargeBasinModel_firstFreed k_barges k_stands k_kind k_gate k_places = some r0) : Met l yX7_firstFreed wsX7_firstFreed rm_BargeBasinModel_firstFreed (va_Pc [.ref a_t] (fun U => va_P D vwCl [(a_t, .inr (7, [.int k_status, .int k_thrown, .int k_has, .int k_width, .int k_height, .ref a_lineSort, .ref a_lineMany, .ref a_numbers, .ref a_wall, .int k_barges, .ref a_kind, .ref a_at, .ref a_size, .ref a_way, .ref a_gate, .int k_undoMany, .int k_redoMany, .ref a_undoBarge, .ref a_undoFrom, .ref a_undoTo, .ref a_redoBarge, .ref a_redoFrom, .ref a_redoTo, .int k_whyStep, .int k_whyWhat, .int k_whyWho, .int k_hasPlan, .int k_planMany, .ref a_planBarge, .ref a_planWay, .ref a_planSteps, .int k_stands, .ref a_places, .ref a_heads, .ref a_chain, .ref a_depth, .ref a_parent, .ref a_byBarge, .ref a_byWay, .ref a_bySteps, .ref a_far, .ref a_firstEdge, .ref a_edge, .ref a_edgeBarge, .int k_edges, .ref a_count, .ref a_who, .ref a_here, .ref a_isKept, .ref a_keptWidth, .ref a_keptHeight, .ref a_keptBarges, .ref a_keptWall, .ref a_keptKind, .ref a_keptAt, .ref a_keptSize, .ref a_keptWay, .ref a_keptGate, .ref a_out, .int k_outs, .ref a_counts, .ref a_oldNumbers, .int k_seed, .ref a_newWall, .int k_asWidth, .int k_asHeight, .ref a_asAt, .ref a_asGate, .ref a_asWay, .ref a_asWide, .ref a_asTall, .ref a_asWall])), (a_kind, .inl (cT 0, 12, .inl k_kind)), (a_gate, .inl (cT 0, 12, .inl k_gate)), (a_places, .inl (cT 3, 72012, .inl k_places))] U.heap ∧ va_K D vwCl (jT cT) U ∧ jNw U)) (vp_Si (fun r => r = r0)) 0 0 (fun _ => False) := by
  refine Met.ofW (cc := cX7_firstFreed) (maxL := 2) (ret := (some .int)) (by decide) rfl ?_
  intro p e s m args below meth c s₁ B hml hv
  obtain ⟨rfl, hP, hK, hN⟩ := hv
  have hx := B.exec
  have hb := B.bytes
  have hr := B.returns
  have hts := atoms_spec (ws := wsX7_firstFreed) B.pre
  have hown : s.vm.findClass RX7 = some m.cls := findClass_of_methodNamed B.named
  have hlocks := B.notSynchronized
  have hl := lv_entry ([.ref a_t]) (n := 2) (Nat.le_of_ble_eq_true rfl)
  rw [lg_entry_eq]
  generalize (lg_sl ([.ref a_t]) ++ List.replicate (2 - (lg_sl ([.ref a_t])).length) Slot.unset).toArray = ls at hl ⊢
  have hl : lv_has ls 2 [(0, .ref a_t)] := hl
  unfold f_BargeBasinModel_firstFreed at hf
  refine lv_iconst (v := 0) hx hb dX7_firstFreed_0 (by decide) ?_
  refine lv_istore_n (lv' := [(1, .int ((0 : Int32))), (0, .ref a_t)]) hx hb dX7_firstFreed_1 rfl hl (by decide) rfl (fun ls hl => ?_)
  replace hf := ob_b hf
  obtain ⟨ex_8, hq_9, hf⟩ := hf
  refine l_f_BargeBasinModel_firstFreed_L2 hx hb hml hown hts hK hN hP jN _ ex_8 hq_9 ls (lv_sub hl [1, 0] rfl) (fun v1_10 ee_12 ls hl => ?_)
  have ee_12 := ee_12.symm
  subst ee_12
  refine lv_iload_n hx hb dX7_firstFreed_24 rfl (lv_at hl 1 rfl) ?_
  refine lv_aload_n hx hb dX7_firstFreed_25 rfl (lv_at hl 0 rfl) ?_
  refine va_get (D := D) (ci := 7) (v := .int k_stands) (C := RX7) (T := TX7) (N := 72) hx hb hts iw_wsX7_firstFreed_X7 hown hK hP 0 rfl rfl 31 (by decide) (hts (.fieldLink RX7 256 "BargeBasinModel" "stands" "I") (List.mem_of_getElem? (i := 1) (by decide +kernel))) (fun _ h9 => h9) rfl dX7_firstFreed_26 ?_
  refine lv_icmp_ge (tgt := 36) hx hb dX7_firstFreed_29 (by decide) (fun c_11 => ?_) (fun c_11 => ?_)
  · replace hf := ob_pos c_11 hf
    refine lv_iconst (v := -1) hx hb dX7_firstFreed_36 (by decide) ?_
    cases hf
    exact W.iret hx hb hr (fun t ht hW => ⟨_, rfl, rfl, ht⟩) (fun q h => by cases h) dX7_firstFreed_37
  · replace hf := ob_neg c_11 hf
    refine lv_iload_n hx hb dX7_firstFreed_32 rfl (lv_at hl 1 rfl) ?_
    refine lv_goto (tgt := 37) hx hb dX7_firstFreed_33 (by decide) ?_
    cases hf
    exact W.iret hx hb hr (fun t ht hW => ⟨_, rfl, rfl, ht⟩) (fun q h => by cases h) dX7_firstFreed_37
