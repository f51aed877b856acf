theorem iw_wsX7_hash_X7 : ∀ w ∈ wsX70, w ∈ wsX7_hash := fun _ h => List.mem_cons_of_mem _ (List.mem_append_right _ h)
abbrev rm_BargeBasinModel_hash : Room := { frames := 0, cells := 0, slots := 0, locals := 0 }
set_option maxHeartbeats 4000000 in
set_option maxRecDepth 100000 in
theorem l_f_BargeBasinModel_hash_L5 {p : Program} {l : Launch} {e : Env} {s : State} {m : MethodId} {args : Array Value} {below : List Frame} {meth : Method} {c : Code} {Q : State → Prop} {D : va_G} {cT : Nat → ClassId} {a_t a_lineSort a_lineMany a_numbers a_wall a_kind a_at a_size a_way a_gate a_undoBarge a_undoFrom a_undoTo a_redoBarge a_redoFrom a_redoTo a_planBarge a_planWay a_planSteps a_places a_heads a_chain a_depth a_parent a_byBarge a_byWay a_bySteps a_far a_firstEdge a_edge a_edgeBarge a_count a_who a_here a_isKept a_keptWidth a_keptHeight a_keptBarges a_keptWall a_keptKind a_keptAt a_keptSize a_keptWay a_keptGate a_out a_counts a_oldNumbers a_newWall a_asAt a_asGate a_asWay a_asWide a_asTall a_asWall : Nat} {k_status : Int32} {k_thrown : Int32} {k_has : Int32} {k_width : Int32} {k_height : Int32} {k_barges : Int32} {k_undoMany : Int32} {k_redoMany : Int32} {k_whyStep : Int32} {k_whyWhat : Int32} {k_whyWho : Int32} {k_hasPlan : Int32} {k_planMany : Int32} {k_stands : Int32} {k_edges : Int32} {k_outs : Int32} {k_seed : Int32} {k_asWidth : Int32} {k_asHeight : Int32} {k_here : Nat → Int32} (hx : p.tables.exec = Jvm.exec) (hb : c.code = cX7_hash) (hml : c.maxLocals = 3) (hown : s.vm.findClass RX7 = some m.cls) (hts : ∀ w ∈ wsX7_hash, w.before args s = true) (hK : va_K D vwCl (jT cT) s) (hN : jNw s) (hP : va_P D vwCl [(a_t, .inr (7, [.int k_status, .int k_thrown, .int k_has, .int k_width, .int k_height, .ref a_lineSort, .ref a_lineMany, .ref a_numbers, .ref a_wall, .int k_barges, .ref a_kind, .ref a_at, .ref a_size, .ref a_way, .ref a_gate, .int k_undoMany, .int k_redoMany, .ref a_undoBarge, .ref a_undoFrom, .ref a_undoTo, .ref a_redoBarge, .ref a_redoFrom, .ref a_redoTo, .int k_whyStep, .int k_whyWhat, .int k_whyWho, .int k_hasPlan, .int k_planMany, .ref a_planBarge, .ref a_planWay, .ref a_planSteps, .int k_stands, .ref a_places, .ref a_heads, .ref a_chain, .ref a_depth, .ref a_parent, .ref a_byBarge, .ref a_byWay, .ref a_bySteps, .ref a_far, .ref a_firstEdge, .ref a_edge, .ref a_edgeBarge, .int k_edges, .ref a_count, .ref a_who, .ref a_here, .ref a_isKept, .ref a_keptWidth, .ref a_keptHeight, .ref a_keptBarges, .ref a_keptWall, .ref a_keptKind, .ref a_keptAt, .ref a_keptSize, .ref a_keptWay, .ref a_keptGate, .ref a_out, .int k_outs, .ref a_counts, .ref a_oldNumbers, .int k_seed, .ref a_newWall, .int k_asWidth, .int k_asHeight, .ref a_asAt, .ref a_asGate, .ref a_asWay, .ref a_asWide, .ref a_asTall, .ref a_asWall])), (a_here, .inl (cT 0, 12, .inl k_here))] s.heap) : ∀ (n : Nat) (v1 : Int32) (v2 : Int32) (ex : Int32), f_BargeBasinModel_hash_L5 k_barges k_here n v1 v2 = some ex → ∀ (ls : Array Slot), lv_has ls 3 [(0, .ref a_t), (1, .int v1), (2, .int v2)] → (∀ (v1_5 : Int32), ex = v1_5 → ∀ (ls : Array Slot), lv_has ls 3 [(1, .int v1_5)] → W p l e (headSpec wsX7_hash rm_BargeBasinModel_hash).room s m args below meth c s.heap [] 0 0 Q (F0 m 31 ls [])) → W p l e (headSpec wsX7_hash rm_BargeBasinModel_hash).room s m args below meth c s.heap [] 0 0 Q (F0 m 5 ls []) := by
  intro n
  induction n with
  | zero => intro v1 v2 ex hf; exact (ob_none hf).elim
  | succ n ih =>
    intro v1 v2 ex hf ls hl K0
    rw [f_BargeBasinModel_hash_L5] at hf
    refine lv_iload_n hx hb dX7_hash_5 rfl (lv_at hl 2 rfl) ?_
    refine lv_aload_n hx hb dX7_hash_6 rfl (lv_at hl 0 rfl) ?_
    refine va_get (D := D) (ci := 7) (v := .int k_barges) (C := RX7) (T := TX7) (N := 72) hx hb hts iw_wsX7_hash_X7 hown hK hP 0 rfl rfl 9 (by decide) (hts (.fieldLink RX7 216 "BargeBasinModel" "barges" "I") (List.mem_of_getElem? (i := 1) (by decide +kernel))) (fun _ h9 => h9) rfl dX7_hash_7 ?_
    refine lv_icmp_ge (tgt := 31) hx hb dX7_hash_10 (by decide) (fun c_1 => ?_) (fun c_1 => ?_)
    · replace hf := ob_pos c_1 hf
      cases hf
      exact K0 _ rfl ls (lv_sub hl [1] rfl)
    · replace hf := ob_neg c_1 hf
      refine lv_iload_n hx hb dX7_hash_13 rfl (lv_at hl 1 rfl) ?_
      refine lv_bipush (v := 67) hx hb dX7_hash_14 (by decide) ?_
      refine lv_imul hx hb dX7_hash_16 ?_
      refine lv_aload_n hx hb dX7_hash_17 rfl (lv_at hl 0 rfl) ?_
      refine va_get (D := D) (ci := 7) (v := .ref a_here) (C := RX7) (T := TX7) (N := 72) hx hb hts iw_wsX7_hash_X7 hown hK hP 0 rfl rfl 47 (by decide) (hts (.fieldLink RX7 121 "BargeBasinModel" "here" "[I") (List.mem_of_getElem? (i := 2) (by decide +kernel))) (fun _ h9 => h9) rfl dX7_hash_18 ?_
      refine lv_iload_n hx hb dX7_hash_21 rfl (lv_at hl 2 rfl) ?_
      replace hf := ob_grd hf
      obtain ⟨hi_2, hf⟩ := hf
      refine va_iald hx hb hK hP 1 0 rfl rfl hi_2 dX7_hash_22 ?_
      refine lv_iadd hx hb dX7_hash_23 ?_
      refine lv_topi (fun v1_3 ev1_3 => ?_)
      replace hf := ob_nm ev1_3 hf
      refine lv_istore_n (lv' := [(1, .int v1_3), (0, .ref a_t), (2, .int v2)]) hx hb dX7_hash_24 rfl hl (by decide) rfl (fun ls hl => ?_)
      obtain ⟨v2_4, ev2_4⟩ : ∃ y : Int32, y = v2 + 1 := ⟨_, rfl⟩
      replace hf := ob_nm ev2_4 hf
      refine lv_iinc (v := v2_4) (lv' := [(2, .int v2_4), (1, .int v1_3), (0, .ref a_t)]) hx hb dX7_hash_25 hl (k := 2) rfl (by rw [ev2_4]; rfl) (by decide) rfl (fun ls hl => ?_)
      refine lv_goto (tgt := 5) hx hb dX7_hash_28 (by decide) ?_
      exact ih _ _ ex hf ls (lv_sub hl [2, 1, 0] rfl) K0
set_option maxHeartbeats 4000000 in
set_option maxRecDepth 100000 in
theorem c_f_BargeBasinModel_hash (l : Launch) (D : va_G) (cT : Nat → ClassId) (a_t a_lineSort a_lineMany a_numbers a_wall a_kind a_at a_size a_way a_gate a_undoBarge a_undoFrom a_undoTo a_redoBarge a_redoFrom a_redoTo a_planBarge a_planWay a_planSteps a_places a_heads a_chain a_depth a_parent a_byBarge a_byWay a_bySteps a_far a_firstEdge a_edge a_edgeBarge a_count a_who a_here a_isKept a_keptWidth a_keptHeight a_keptBarges a_keptWall a_keptKind a_keptAt a_keptSize a_keptWay a_keptGate a_out a_counts a_oldNumbers a_newWall a_asAt a_asGate a_asWay a_asWide a_asTall a_asWall : Nat) (k_status : Int32) (k_thrown : Int32) (k_has : Int32) (k_width : Int32) (k_height : Int32) (k_barges : Int32) (k_undoMany : Int32) (k_redoMany : Int32) (k_whyStep : Int32) (k_whyWhat : Int32) (k_whyWho : Int32) (k_hasPlan : Int32) (k_planMany : Int32) (k_stands : Int32) (k_edges : Int32) (k_outs : Int32) (k_seed : Int32) (k_asWidth : Int32) (k_asHeight : Int32) (k_here : Nat → Int32) (r0 : Int32) (hf : f_BargeBasinModel_hash k_barges k_here = some r0) : Met l yX7_hash wsX7_hash rm_BargeBasinModel_hash (va_Pc [.ref a_t] (fun U => va_P D vwCl [(a_t, .inr (7, [.int k_status, .int k_thrown, .int k_has, .int k_width, .int k_height, .ref a_lineSort, .ref a_lineMany, .ref a_numbers, .ref a_wall, .int k_barges, .ref a_kind, .ref a_at, .ref a_size, .ref a_way, .ref a_gate, .int k_undoMany, .int k_redoMany, .ref a_undoBarge, .ref a_undoFrom, .ref a_undoTo, .ref a_redoBarge, .ref a_redoFrom, .ref a_redoTo, .int k_whyStep, .int k_whyWhat, .int k_whyWho, .int k_hasPlan, .int k_planMany, .ref a_planBarge, .ref a_planWay, .ref a_planSteps, .int k_stands, .ref a_places, .ref a_heads, .ref a_chain, .ref a_depth, .ref a_parent, .ref a_byBarge, .ref a_byWay, .ref a_bySteps, .ref a_far, .ref a_firstEdge, .ref a_edge, .ref a_edgeBarge, .int k_edges, .ref a_count, .ref a_who, .ref a_here, .ref a_isKept, .ref a_keptWidth, .ref a_keptHeight, .ref a_keptBarges, .ref a_keptWall, .ref a_keptKind, .ref a_keptAt, .ref a_keptSize, .ref a_keptWay, .ref a_keptGate, .ref a_out, .int k_outs, .ref a_counts, .ref a_oldNumbers, .int k_seed, .ref a_newWall, .int k_asWidth, .int k_asHeight, .ref a_asAt, .ref a_asGate, .ref a_asWay, .ref a_asWide, .ref a_asTall, .ref a_asWall])), (a_here, .inl (cT 0, 12, .inl k_here))] U.heap ∧ va_K D vwCl (jT cT) U ∧ jNw U)) (vp_Si (fun r => r = r0)) 0 0 (fun _ => False) := by
  refine Met.ofW (cc := cX7_hash) (maxL := 3) (ret := (some .int)) (by decide) rfl ?_
  intro p e s m args below meth c s₁ B hml hv
  obtain ⟨rfl, hP, hK, hN⟩ := hv
  have hx := B.exec
  have hb := B.bytes
  have hr := B.returns
  have hts := atoms_spec (ws := wsX7_hash) B.pre
  have hown : s.vm.findClass RX7 = some m.cls := findClass_of_methodNamed B.named
  have hlocks := B.notSynchronized
  have hl := lv_entry ([.ref a_t]) (n := 3) (Nat.le_of_ble_eq_true rfl)
  rw [lg_entry_eq]
  generalize (lg_sl ([.ref a_t]) ++ List.replicate (3 - (lg_sl ([.ref a_t])).length) Slot.unset).toArray = ls at hl ⊢
  have hl : lv_has ls 3 [(0, .ref a_t)] := hl
  unfold f_BargeBasinModel_hash at hf
  refine lv_bipush (v := 7) hx hb dX7_hash_0 (by decide) ?_
  refine lv_istore_n (lv' := [(1, .int ((7 : Int32))), (0, .ref a_t)]) hx hb dX7_hash_2 rfl hl (by decide) rfl (fun ls hl => ?_)
  refine lv_iconst (v := 0) hx hb dX7_hash_3 (by decide) ?_
  refine lv_istore_n (lv' := [(2, .int ((0 : Int32))), (1, .int ((7 : Int32))), (0, .ref a_t)]) hx hb dX7_hash_4 rfl hl (by decide) rfl (fun ls hl => ?_)
  replace hf := ob_b hf
  obtain ⟨ex_6, hq_7, hf⟩ := hf
  refine l_f_BargeBasinModel_hash_L5 hx hb hml hown hts hK hN hP jN _ _ ex_6 hq_7 ls (lv_sub hl [2, 1, 0] rfl) (fun v1_8 ee_9 ls hl => ?_)
  have ee_9 := ee_9.symm
  subst ee_9
  refine lv_iload_n hx hb dX7_hash_31 rfl (lv_at hl 0 rfl) ?_
  refine lv_iload_n hx hb dX7_hash_32 rfl (lv_at hl 0 rfl) ?_
  refine lv_bipush (v := 15) hx hb dX7_hash_33 (by decide) ?_
  refine lv_iushr hx hb dX7_hash_35 rfl ?_
  refine lv_ixor hx hb dX7_hash_36 ?_
  refine lv_sipush (v := 16383) hx hb dX7_hash_37 (by decide) ?_
  refine lv_iand hx hb dX7_hash_40 ?_
  cases hf
  exact W.iret hx hb hr (fun t ht hW => ⟨_, rfl, rfl, ht⟩) (fun q h => by cases h) dX7_hash_41
theorem iw_wsX7_isHere_X7 : ∀ w ∈ wsX70, w ∈ wsX7_isHere := fun _ h => List.mem_cons_of_mem _ (List.mem_append_right _ h)
abbrev rm_BargeBasinModel_isHere : Room := { frames := 0, cells := 0, slots := 0, locals := 0 }
set_option maxHeartbeats 4000000 in
set_option maxRecDepth 100000 in
theorem l_f_BargeBasinModel_isHere_L2 {p : Program} {l : Launch} {e : Env} {s : State} {m : MethodId} {args : Array Value} {below : List Frame} {meth : Method} {c : Code} {Q : State → Prop} {D : va_G} {cT : Nat → ClassId} {a_t a_lineSort a_lineMany a_numbers a_wall a_kind a_at a_size a_way a_gate a_undoBarge a_undoFrom a_undoTo a_redoBarge a_redoFrom a_redoTo a_planBarge a_planWay a_planSteps a_places a_heads a_chain a_depth a_parent a_byBarge a_byWay a_bySteps a_far a_firstEdge a_edge a_edgeBarge a_count a_who a_here a_isKept a_keptWidth a_keptHeight a_keptBarges a_keptWall a_keptKind a_keptAt a_keptSize a_keptWay a_keptGate a_out a_counts a_oldNumbers a_newWall a_asAt a_asGate a_asWay a_asWide a_asTall a_asWall : Nat} {k_status : Int32} {k_thrown : Int32} {k_has : Int32} {k_width : Int32} {k_height : Int32} {k_barges : Int32} {k_undoMany : Int32} {k_redoMany : Int32} {k_whyStep : Int32} {k_whyWhat : Int32} {k_whyWho : Int32} {k_hasPlan : Int32} {k_planMany : Int32} {k_stands : Int32} {k_edges : Int32} {k_outs : Int32} {k_seed : Int32} {k_asWidth : Int32} {k_asHeight : Int32} {k_places : Nat → Int32} {k_here : Nat → Int32} {v1 : Int32} (hx : p.tables.exec = Jvm.exec) (hb : c.code = cX7_isHere) (hml : c.maxLocals = 3) (hown : s.vm.findClass RX7 = some m.cls) (hts : ∀ w ∈ wsX7_isHere, w.before args s = true) (hK : va_K D vwCl (jT cT) s) (hN : jNw s) (hP : va_P D vwCl [(a_t, .inr (7, [.int k_status, .int k_thrown, .int k_has, .int k_width, .int k_height, .ref a_lineSort, .ref a_lineMany, .ref a_numbers, .ref a_wall, .int k_barges, .ref a_kind, .ref a_at, .ref a_size, .ref a_way, .ref a_gate, .int k_undoMany, .int k_redoMany, .ref a_undoBarge, .ref a_undoFrom, .ref a_undoTo, .ref a_redoBarge, .ref a_redoFrom, .ref a_redoTo, .int k_whyStep, .int k_whyWhat, .int k_whyWho, .int k_hasPlan, .int k_planMany, .ref a_planBarge, .ref a_planWay, .ref a_planSteps, .int k_stands, .ref a_places, .ref a_heads, .ref a_chain, .ref a_depth, .ref a_parent, .ref a_byBarge, .ref a_byWay, .ref a_bySteps, .ref a_far, .ref a_firstEdge, .ref a_edge, .ref a_edgeBarge, .int k_edges, .ref a_count, .ref a_who, .ref a_here, .ref a_isKept, .ref a_keptWidth, .ref a_keptHeight, .ref a_keptBarges, .ref a_keptWall, .ref a_keptKind, .ref a_keptAt, .ref a_keptSize, .ref a_keptWay, .ref a_keptGate, .ref a_out, .int k_outs, .ref a_counts, .ref a_oldNumbers, .int k_seed, .ref a_newWall, .int k_asWidth, .int k_asHeight, .ref a_asAt, .ref a_asGate, .ref a_asWay, .ref a_asWide, .ref a_asTall, .ref a_asWall])), (a_places, .inl (cT 3, 72012, .inl k_places)), (a_here, .inl (cT 0, 12, .inl k_here))] s.heap) : ∀ (n : Nat) (v2 : Int32) (ex : (Unit) ⊕ (Unit)), f_BargeBasinModel_isHere_L2 v1 k_barges k_places k_here n v2 = some ex → ∀ (ls : Array Slot), lv_has ls 3 [(0, .ref a_t), (1, .int v1), (2, .int v2)] → (ex = .inl (()) → ∀ (ls : Array Slot), lv_has ls 3 [] → W p l e (headSpec wsX7_isHere rm_BargeBasinModel_isHere).room s m args below meth c s.heap [] 0 0 Q (F0 m 30 ls [])) → (ex = .inr (()) → ∀ (ls : Array Slot), lv_has ls 3 [] → W p l e (headSpec wsX7_isHere rm_BargeBasinModel_isHere).room s m args below meth c s.heap [] 0 0 Q (F0 m 38 ls [])) → W p l e (headSpec wsX7_isHere rm_BargeBasinModel_isHere).room s m args below meth c s.heap [] 0 0 Q (F0 m 2 ls []) := by
  intro n
  induction n with
  | zero => intro v2 ex hf; exact (ob_none hf).elim
  | succ n ih =>
    intro v2 ex hf ls hl K0 K1
    rw [f_BargeBasinModel_isHere_L2] at hf
    refine lv_iload_n hx hb dX7_isHere_2 rfl (lv_at hl 2 rfl) ?_
    refine lv_aload_n hx hb dX7_isHere_3 rfl (lv_at hl 0 rfl) ?_
    refine va_get (D := D) (ci := 7) (v := .int k_barges) (C := RX7) (T := TX7) (N := 72) hx hb hts iw_wsX7_isHere_X7 hown hK hP 0 rfl rfl 9 (by decide) (hts (.fieldLink RX7 216 "BargeBasinModel" "barges" "I") (List.mem_of_getElem? (i := 1) (by decide +kernel))) (fun _ h9 => h9) rfl dX7_isHere_4 ?_
    refine lv_icmp_ge (tgt := 38) hx hb dX7_isHere_7 (by decide) (fun c_1 => ?_) (fun c_1 => ?_)
    · replace hf := ob_pos c_1 hf
      cases hf
      exact K1 rfl ls (lv_sub hl [] rfl)
    · replace hf := ob_neg c_1 hf
      refine lv_aload_n hx hb dX7_isHere_10 rfl (lv_at hl 0 rfl) ?_
      refine va_get (D := D) (ci := 7) (v := .ref a_places) (C := RX7) (T := TX7) (N := 72) hx hb hts iw_wsX7_isHere_X7 hown hK hP 0 rfl rfl 32 (by decide) (hts (.fieldLink RX7 76 "BargeBasinModel" "places" "[B") (List.mem_of_getElem? (i := 2) (by decide +kernel))) (fun _ h9 => h9) rfl dX7_isHere_11 ?_
      refine lv_bipush (v := 12) hx hb dX7_isHere_14 (by decide) ?_
      refine lv_iload_n hx hb dX7_isHere_16 rfl (lv_at hl 1 rfl) ?_
      refine lv_imul hx hb dX7_isHere_17 ?_
      refine lv_iload_n hx hb dX7_isHere_18 rfl (lv_at hl 2 rfl) ?_
      refine lv_iadd hx hb dX7_isHere_19 ?_
      replace hf := ob_grd hf
      obtain ⟨hi_2, hf⟩ := hf
      refine va_bald hx hb hK hP 1 3 rfl rfl hi_2 dX7_isHere_20 ?_
      refine lv_aload_n hx hb dX7_isHere_21 rfl (lv_at hl 0 rfl) ?_
      refine va_get (D := D) (ci := 7) (v := .ref a_here) (C := RX7) (T := TX7) (N := 72) hx hb hts iw_wsX7_isHere_X7 hown hK hP 0 rfl rfl 47 (by decide) (hts (.fieldLink RX7 121 "BargeBasinModel" "here" "[I") (List.mem_of_getElem? (i := 3) (by decide +kernel))) (fun _ h9 => h9) rfl dX7_isHere_22 ?_
      refine lv_iload_n hx hb dX7_isHere_25 rfl (lv_at hl 2 rfl) ?_
      replace hf := ob_grd hf
      obtain ⟨hi_3, hf⟩ := hf
      refine va_iald hx hb hK hP 2 0 rfl rfl hi_3 dX7_isHere_26 ?_
      refine lv_icmp_eq (tgt := 32) hx hb dX7_isHere_27 (by decide) (fun c_4 => ?_) (fun c_4 => ?_)
      · replace hf := ob_pos c_4 hf
        obtain ⟨v2_5, ev2_5⟩ : ∃ y : Int32, y = v2 + 1 := ⟨_, rfl⟩
        replace hf := ob_nm ev2_5 hf
        refine lv_iinc (v := v2_5) (lv' := [(2, .int v2_5), (0, .ref a_t), (1, .int v1)]) hx hb dX7_isHere_32 hl (k := 2) rfl (by rw [ev2_5]; rfl) (by decide) rfl (fun ls hl => ?_)
        refine lv_goto (tgt := 2) hx hb dX7_isHere_35 (by decide) ?_
        exact ih _ ex hf ls (lv_sub hl [1, 2, 0] rfl) K0 K1
      · replace hf := ob_neg c_4 hf
        cases hf
        exact K0 rfl ls (lv_sub hl [] rfl)
set_option maxHeartbeats 4000000 in
set_option maxRecDepth 100000 in
theorem c_f_BargeBasinModel_isHere (l : Launch) (D : va_G) (cT : Nat → ClassId) (a_t a_lineSort a_lineMany a_numbers a_wall a_kind a_at a_size a_way a_gate a_undoBarge a_undoFrom a_undoTo a_redoBarge a_redoFrom a_redoTo a_planBarge a_planWay a_planSteps a_places a_heads a_chain a_depth a_parent a_byBarge a_byWay a_bySteps a_far a_firstEdge a_edge a_edgeBarge a_count a_who a_here a_isKept a_keptWidth a_keptHeight a_keptBarges a_keptWall a_keptKind a_keptAt a_keptSize a_keptWay a_keptGate a_out a_counts a_oldNumbers a_newWall a_asAt a_asGate a_asWay a_asWide a_asTall a_asWall : Nat) (k_status : Int32) (k_thrown : Int32) (k_has : Int32) (k_width : Int32) (k_height : Int32) (k_barges : Int32) (k_undoMany : Int32) (k_redoMany : Int32) (k_whyStep : Int32) (k_whyWhat : Int32) (k_whyWho : Int32) (k_hasPlan : Int32) (k_planMany : Int32) (k_stands : Int32) (k_edges : Int32) (k_outs : Int32) (k_seed : Int32) (k_asWidth : Int32) (k_asHeight : Int32) (k_places : Nat → Int32) (k_here : Nat → Int32) (v1 : Int32) (r0 : Int32) (hf : f_BargeBasinModel_isHere v1 k_barges k_places k_here = some r0) : Met l yX7_isHere wsX7_isHere rm_BargeBasinModel_isHere (va_Pc [.ref a_t, .int v1] (fun U => va_P D vwCl [(a_t, .inr (7, [.int k_status, .int k_thrown, .int k_has, .int k_width, .int k_height, .ref a_lineSort, .ref a_lineMany, .ref a_numbers, .ref a_wall, .int k_barges, .ref a_kind, .ref a_at, .ref a_size, .ref a_way, .ref a_gate, .int k_undoMany, .int k_redoMany, .ref a_undoBarge, .ref a_undoFrom, .ref a_undoTo, .ref a_redoBarge, .ref a_redoFrom, .ref a_redoTo, .int k_whyStep, .int k_whyWhat, .int k_whyWho, .int k_hasPlan, .int k_planMany, .ref a_planBarge, .ref a_planWay, .ref a_planSteps, .int k_stands, .ref a_places, .ref a_heads, .ref a_chain, .ref a_depth, .ref a_parent, .ref a_byBarge, .ref a_byWay, .ref a_bySteps, .ref a_far, .ref a_firstEdge, .ref a_edge, .ref a_edgeBarge, .int k_edges, .ref a_count, .ref a_who, .ref a_here, .ref a_isKept, .ref a_keptWidth, .ref a_keptHeight, .ref a_keptBarges, .ref a_keptWall, .ref a_keptKind, .ref a_keptAt, .ref a_keptSize, .ref a_keptWay, .ref a_keptGate, .ref a_out, .int k_outs, .ref a_counts, .ref a_oldNumbers, .int k_seed, .ref a_newWall, .int k_asWidth, .int k_asHeight, .ref a_asAt, .ref a_asGate, .ref a_asWay, .ref a_asWide, .ref a_asTall, .ref a_asWall])), (a_places, .inl (cT 3, 72012, .inl k_places)), (a_here, .inl (cT 0, 12, .inl k_here))] U.heap ∧ va_K D vwCl (jT cT) U ∧ jNw U)) (vp_Si (fun r => r = r0)) 0 0 (fun _ => False) := by
  refine Met.ofW (cc := cX7_isHere) (maxL := 3) (ret := (some .boolean)) (by decide) rfl ?_
  intro p e s m args below meth c s₁ B hml hv
  obtain ⟨rfl, hP, hK, hN⟩ := hv
  have hx := B.exec
  have hb := B.bytes
  have hr := B.returns
  have hts := atoms_spec (ws := wsX7_isHere) B.pre
  have hown : s.vm.findClass RX7 = some m.cls := findClass_of_methodNamed B.named
  have hlocks := B.notSynchronized
  have hl := lv_entry ([.ref a_t, .int v1]) (n := 3) (Nat.le_of_ble_eq_true rfl)
  rw [lg_entry_eq]
  generalize (lg_sl ([.ref a_t, .int v1]) ++ List.replicate (3 - (lg_sl ([.ref a_t, .int v1])).length) Slot.unset).toArray = ls at hl ⊢
  have hl : lv_has ls 3 [(0, .ref a_t), (1, .int v1)] := hl
  unfold f_BargeBasinModel_isHere at hf
  refine lv_iconst (v := 0) hx hb dX7_isHere_0 (by decide) ?_
  refine lv_istore_n (lv' := [(2, .int ((0 : Int32))), (0, .ref a_t), (1, .int v1)]) hx hb dX7_isHere_1 rfl hl (by decide) rfl (fun ls hl => ?_)
  replace hf := ob_b hf
  obtain ⟨ex_6, hq_7, hf⟩ := hf
  refine l_f_BargeBasinModel_isHere_L2 hx hb hml hown hts hK hN hP jN _ ex_6 hq_7 ls (lv_sub hl [1, 2, 0] rfl) (fun ee_8 ls hl => ?_) (fun ee_9 ls hl => ?_)
  · subst ee_8
    replace hf := ob_inl hf
    replace hf := ob_un0 hf
    refine lv_iconst (v := 0) hx hb dX7_isHere_30 (by decide) ?_
    cases hf
    exact W.zret hx hb hr (by decide +kernel) (fun t ht hW => ⟨_, rfl, rfl, ht⟩) (fun q h => by cases h) dX7_isHere_31
  · subst ee_9
    replace hf := ob_inr hf
    replace hf := ob_un0 hf
    refine lv_iconst (v := 1) hx hb dX7_isHere_38 (by decide) ?_
    cases hf
    exact W.zret hx hb hr (by decide +kernel) (fun t ht hW => ⟨_, rfl, rfl, ht⟩) (fun q h => by cases h) dX7_isHere_39
