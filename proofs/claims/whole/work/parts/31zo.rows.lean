abbrev rm_BargeBasinModel_isLength : Room := { frames := 0, cells := 0, slots := 0, locals := 0 }
set_option maxHeartbeats 4000000 in
set_option maxRecDepth 100000 in
theorem c_f_BargeBasinModel_isLength (l : Launch) (D : va_G) (cT : Nat → ClassId) (v0 : Int32) (v1 : Int32) (r0 : Int32) (hf : f_BargeBasinModel_isLength v0 v1 = some r0) : Met l yX7_isLength wsX7_isLength rm_BargeBasinModel_isLength (va_Pc [.int v0, .int v1] (fun U => True)) (vp_Si (fun r => r = r0)) 0 0 (fun _ => False) := by
  refine Met.ofW (cc := cX7_isLength) (maxL := 2) (ret := (some .boolean)) (by decide) rfl ?_
  intro p e s m args below meth c s₁ B hml hv
  obtain ⟨rfl, -⟩ := hv
  have hx := B.exec
  have hb := B.bytes
  have hr := B.returns
  have hts := atoms_spec (ws := wsX7_isLength) B.pre
  have hown : s.vm.findClass RX7 = some m.cls := findClass_of_methodNamed B.named
  have hlocks := B.notSynchronized
  have hl := lv_entry ([.int v0, .int v1]) (n := 2) (Nat.le_of_ble_eq_true rfl)
  rw [lg_entry_eq]
  generalize (lg_sl ([.int v0, .int v1]) ++ List.replicate (2 - (lg_sl ([.int v0, .int v1])).length) Slot.unset).toArray = ls at hl ⊢
  have hl : lv_has ls 2 [(0, .int v0), (1, .int v1)] := hl
  unfold f_BargeBasinModel_isLength at hf
  refine lv_iload_n hx hb dX7_isLength_0 rfl (lv_at hl 0 rfl) ?_
  refine lv_iconst (v := 1) hx hb dX7_isLength_1 (by decide) ?_
  refine lv_icmp_eq (tgt := 10) hx hb dX7_isLength_2 (by decide) (fun c_1 => ?_) (fun c_1 => ?_)
  · replace hf := ob_pos c_1 hf
    refine lv_iload_n hx hb dX7_isLength_10 rfl (lv_at hl 1 rfl) ?_
    refine lv_iconst (v := 2) hx hb dX7_isLength_11 (by decide) ?_
    refine lv_icmp_lt (tgt := 24) hx hb dX7_isLength_12 (by decide) (fun c_2 => ?_) (fun c_2 => ?_)
    · replace hf := ob_pos c_2 hf
      refine lv_iconst (v := 0) hx hb dX7_isLength_24 (by decide) ?_
      refine lv_goto (tgt := 56) hx hb dX7_isLength_25 (by decide) ?_
      cases hf
      exact W.zret hx hb hr (by decide +kernel) (fun t ht hW => ⟨_, rfl, rfl, ht⟩) (fun q h => by cases h) dX7_isLength_56
    · replace hf := ob_neg c_2 hf
      refine lv_iload_n hx hb dX7_isLength_15 rfl (lv_at hl 1 rfl) ?_
      refine lv_iconst (v := 4) hx hb dX7_isLength_16 (by decide) ?_
      refine lv_icmp_gt (tgt := 24) hx hb dX7_isLength_17 (by decide) (fun c_3 => ?_) (fun c_3 => ?_)
      · replace hf := ob_pos c_3 hf
        refine lv_iconst (v := 0) hx hb dX7_isLength_24 (by decide) ?_
        refine lv_goto (tgt := 56) hx hb dX7_isLength_25 (by decide) ?_
        cases hf
        exact W.zret hx hb hr (by decide +kernel) (fun t ht hW => ⟨_, rfl, rfl, ht⟩) (fun q h => by cases h) dX7_isLength_56
      · replace hf := ob_neg c_3 hf
        refine lv_iconst (v := 1) hx hb dX7_isLength_20 (by decide) ?_
        refine lv_goto (tgt := 56) hx hb dX7_isLength_21 (by decide) ?_
        cases hf
        exact W.zret hx hb hr (by decide +kernel) (fun t ht hW => ⟨_, rfl, rfl, ht⟩) (fun q h => by cases h) dX7_isLength_56
  · replace hf := ob_neg c_1 hf
    refine lv_iload_n hx hb dX7_isLength_5 rfl (lv_at hl 0 rfl) ?_
    refine lv_iconst (v := 5) hx hb dX7_isLength_6 (by decide) ?_
    refine lv_icmp_ne (tgt := 28) hx hb dX7_isLength_7 (by decide) (fun c_4 => ?_) (fun c_4 => ?_)
    · replace hf := ob_neg c_4 hf
      refine lv_iload_n hx hb dX7_isLength_28 rfl (lv_at hl 0 rfl) ?_
      refine lv_iconst (v := 3) hx hb dX7_isLength_29 (by decide) ?_
      refine lv_icmp_ne (tgt := 46) hx hb dX7_isLength_30 (by decide) (fun c_5 => ?_) (fun c_5 => ?_)
      · replace hf := ob_neg c_5 hf
        refine lv_iload_n hx hb dX7_isLength_46 rfl (lv_at hl 1 rfl) ?_
        refine lv_iconst (v := 1) hx hb dX7_isLength_47 (by decide) ?_
        refine lv_icmp_ne (tgt := 55) hx hb dX7_isLength_48 (by decide) (fun c_6 => ?_) (fun c_6 => ?_)
        · replace hf := ob_neg c_6 hf
          refine lv_iconst (v := 0) hx hb dX7_isLength_55 (by decide) ?_
          cases hf
          exact W.zret hx hb hr (by decide +kernel) (fun t ht hW => ⟨_, rfl, rfl, ht⟩) (fun q h => by cases h) dX7_isLength_56
        · replace hf := ob_pos c_6 hf
          refine lv_iconst (v := 1) hx hb dX7_isLength_51 (by decide) ?_
          refine lv_goto (tgt := 56) hx hb dX7_isLength_52 (by decide) ?_
          cases hf
          exact W.zret hx hb hr (by decide +kernel) (fun t ht hW => ⟨_, rfl, rfl, ht⟩) (fun q h => by cases h) dX7_isLength_56
      · replace hf := ob_pos c_5 hf
        refine lv_iload_n hx hb dX7_isLength_33 rfl (lv_at hl 1 rfl) ?_
        refine lv_iconst (v := 2) hx hb dX7_isLength_34 (by decide) ?_
        refine lv_icmp_ne (tgt := 42) hx hb dX7_isLength_35 (by decide) (fun c_7 => ?_) (fun c_7 => ?_)
        · replace hf := ob_neg c_7 hf
          refine lv_iconst (v := 0) hx hb dX7_isLength_42 (by decide) ?_
          refine lv_goto (tgt := 56) hx hb dX7_isLength_43 (by decide) ?_
          cases hf
          exact W.zret hx hb hr (by decide +kernel) (fun t ht hW => ⟨_, rfl, rfl, ht⟩) (fun q h => by cases h) dX7_isLength_56
        · replace hf := ob_pos c_7 hf
          refine lv_iconst (v := 1) hx hb dX7_isLength_38 (by decide) ?_
          refine lv_goto (tgt := 56) hx hb dX7_isLength_39 (by decide) ?_
          cases hf
          exact W.zret hx hb hr (by decide +kernel) (fun t ht hW => ⟨_, rfl, rfl, ht⟩) (fun q h => by cases h) dX7_isLength_56
    · replace hf := ob_pos c_4 hf
      refine lv_iload_n hx hb dX7_isLength_10 rfl (lv_at hl 1 rfl) ?_
      refine lv_iconst (v := 2) hx hb dX7_isLength_11 (by decide) ?_
      refine lv_icmp_lt (tgt := 24) hx hb dX7_isLength_12 (by decide) (fun c_8 => ?_) (fun c_8 => ?_)
      · replace hf := ob_pos c_8 hf
        refine lv_iconst (v := 0) hx hb dX7_isLength_24 (by decide) ?_
        refine lv_goto (tgt := 56) hx hb dX7_isLength_25 (by decide) ?_
        cases hf
        exact W.zret hx hb hr (by decide +kernel) (fun t ht hW => ⟨_, rfl, rfl, ht⟩) (fun q h => by cases h) dX7_isLength_56
      · replace hf := ob_neg c_8 hf
        refine lv_iload_n hx hb dX7_isLength_15 rfl (lv_at hl 1 rfl) ?_
        refine lv_iconst (v := 4) hx hb dX7_isLength_16 (by decide) ?_
        refine lv_icmp_gt (tgt := 24) hx hb dX7_isLength_17 (by decide) (fun c_9 => ?_) (fun c_9 => ?_)
        · replace hf := ob_pos c_9 hf
          refine lv_iconst (v := 0) hx hb dX7_isLength_24 (by decide) ?_
          refine lv_goto (tgt := 56) hx hb dX7_isLength_25 (by decide) ?_
          cases hf
          exact W.zret hx hb hr (by decide +kernel) (fun t ht hW => ⟨_, rfl, rfl, ht⟩) (fun q h => by cases h) dX7_isLength_56
        · replace hf := ob_neg c_9 hf
          refine lv_iconst (v := 1) hx hb dX7_isLength_20 (by decide) ?_
          refine lv_goto (tgt := 56) hx hb dX7_isLength_21 (by decide) ?_
          cases hf
          exact W.zret hx hb hr (by decide +kernel) (fun t ht hW => ⟨_, rfl, rfl, ht⟩) (fun q h => by cases h) dX7_isLength_56
theorem iw_wsX7_againstAny_X7 : ∀ w ∈ wsX70, w ∈ wsX7_againstAny := fun _ h => List.mem_cons_of_mem _ (List.mem_append_right _ h)
abbrev rm_BargeBasinModel_againstAny : Room := { frames := 2, cells := 0, slots := 0, locals := 42 }
set_option maxHeartbeats 4000000 in
set_option maxRecDepth 100000 in
theorem l_f_BargeBasinModel_againstAny_L48 {p : Program} {l : Launch} {e : Env} {s : State} {m : MethodId} {args : Array Value} {below : List Frame} {meth : Method} {c : Code} {Q : State → Prop} {D : va_G} {cT : Nat → ClassId} {a_t a_lineSort a_lineMany a_numbers a_wall a_kind a_at a_size a_way a_gate a_undoBarge a_undoFrom a_undoTo a_redoBarge a_redoFrom a_redoTo a_planBarge a_planWay a_planSteps a_places a_heads a_chain a_depth a_parent a_byBarge a_byWay a_bySteps a_far a_firstEdge a_edge a_edgeBarge a_count a_who a_here a_isKept a_keptWidth a_keptHeight a_keptBarges a_keptWall a_keptKind a_keptAt a_keptSize a_keptWay a_keptGate a_out a_counts a_oldNumbers a_newWall a_asAt a_asGate a_asWay a_asWide a_asTall a_asWall : Nat} {k_status : Int32} {k_thrown : Int32} {k_has : Int32} {k_width : Int32} {k_height : Int32} {k_barges : Int32} {k_undoMany : Int32} {k_redoMany : Int32} {k_whyStep : Int32} {k_whyWhat : Int32} {k_whyWho : Int32} {k_hasPlan : Int32} {k_planMany : Int32} {k_stands : Int32} {k_edges : Int32} {k_outs : Int32} {k_seed : Int32} {k_asWidth : Int32} {k_asHeight : Int32} {k_wall : Nat → Int32} {k_kind : Nat → Int32} {k_size : Nat → Int32} {k_way : Nat → Int32} {k_who : Nat → Int32} {v1 : Int32} {v2 : Int32} {v3 : Int32} {v4 : Int32} (hx : p.tables.exec = Jvm.exec) (hb : c.code = cX7_againstAny) (hml : c.maxLocals = 6) (hown : s.vm.findClass RX7 = some m.cls) (hts : ∀ w ∈ wsX7_againstAny, w.before args s = true) (hK : va_K D vwCl (jT cT) s) (hN : jNw s) (hP : va_P D vwCl [(a_t, .inr (7, [.int k_status, .int k_thrown, .int k_has, .int k_width, .int k_height, .ref a_lineSort, .ref a_lineMany, .ref a_numbers, .ref a_wall, .int k_barges, .ref a_kind, .ref a_at, .ref a_size, .ref a_way, .ref a_gate, .int k_undoMany, .int k_redoMany, .ref a_undoBarge, .ref a_undoFrom, .ref a_undoTo, .ref a_redoBarge, .ref a_redoFrom, .ref a_redoTo, .int k_whyStep, .int k_whyWhat, .int k_whyWho, .int k_hasPlan, .int k_planMany, .ref a_planBarge, .ref a_planWay, .ref a_planSteps, .int k_stands, .ref a_places, .ref a_heads, .ref a_chain, .ref a_depth, .ref a_parent, .ref a_byBarge, .ref a_byWay, .ref a_bySteps, .ref a_far, .ref a_firstEdge, .ref a_edge, .ref a_edgeBarge, .int k_edges, .ref a_count, .ref a_who, .ref a_here, .ref a_isKept, .ref a_keptWidth, .ref a_keptHeight, .ref a_keptBarges, .ref a_keptWall, .ref a_keptKind, .ref a_keptAt, .ref a_keptSize, .ref a_keptWay, .ref a_keptGate, .ref a_out, .int k_outs, .ref a_counts, .ref a_oldNumbers, .int k_seed, .ref a_newWall, .int k_asWidth, .int k_asHeight, .ref a_asAt, .ref a_asGate, .ref a_asWay, .ref a_asWide, .ref a_asTall, .ref a_asWall])), (a_wall, .inl (cT 2, 64, .inl k_wall)), (a_kind, .inl (cT 0, 12, .inl k_kind)), (a_size, .inl (cT 0, 12, .inl k_size)), (a_way, .inl (cT 0, 12, .inl k_way)), (a_who, .inl (cT 0, 64, .inl k_who))] s.heap) : ∀ (n : Nat) (v5 : Int32) (ex : (Unit) ⊕ (Unit)), f_BargeBasinModel_againstAny_L48 v1 v2 v3 v4 k_wall k_kind k_size k_way k_who n v5 = some ex → ∀ (ls : Array Slot), lv_has ls 6 [(0, .ref a_t), (1, .int v1), (2, .int v2), (3, .int v3), (4, .int v4), (5, .int v5)] → (ex = .inl (()) → ∀ (ls : Array Slot), lv_has ls 6 [] → W p l e (headSpec wsX7_againstAny rm_BargeBasinModel_againstAny).room s m args below meth c s.heap [] 0 0 Q (F0 m 92 ls [])) → (ex = .inr (()) → ∀ (ls : Array Slot), lv_has ls 6 [(0, .ref a_t), (1, .int v1), (2, .int v2), (3, .int v3), (4, .int v4)] → W p l e (headSpec wsX7_againstAny rm_BargeBasinModel_againstAny).room s m args below meth c s.heap [] 0 0 Q (F0 m 100 ls [])) → W p l e (headSpec wsX7_againstAny rm_BargeBasinModel_againstAny).room s m args below meth c s.heap [] 0 0 Q (F0 m 48 ls []) := by
  intro n
  induction n with
  | zero => intro v5 ex hf; exact (ob_none hf).elim
  | succ n ih =>
    intro v5 ex hf ls hl K0 K1
    rw [f_BargeBasinModel_againstAny_L48] at hf
    refine lv_iload hx hb dX7_againstAny_48 (lv_at hl 5 rfl) ?_
    refine lv_iload_n hx hb dX7_againstAny_50 rfl (lv_at hl 2 rfl) ?_
    refine lv_aload_n hx hb dX7_againstAny_51 rfl (lv_at hl 0 rfl) ?_
    refine lv_iload_n hx hb dX7_againstAny_52 rfl (lv_at hl 1 rfl) ?_
    replace hf := ob_b hf
    obtain ⟨zr_13, hc_14, hf⟩ := hf
    refine vp_callSi (W.runV (As := [.int v1]) (rest := [.int v2, .int v5]) ⟨hx, hb, hml, hown, hts⟩ (c_f_BargeBasinModel_wide l D cT a_t a_lineSort a_lineMany a_numbers a_wall a_kind a_at a_size a_way a_gate a_undoBarge a_undoFrom a_undoTo a_redoBarge a_redoFrom a_redoTo a_planBarge a_planWay a_planSteps a_places a_heads a_chain a_depth a_parent a_byBarge a_byWay a_bySteps a_far a_firstEdge a_edge a_edgeBarge a_count a_who a_here a_isKept a_keptWidth a_keptHeight a_keptBarges a_keptWall a_keptKind a_keptAt a_keptSize a_keptWay a_keptGate a_out a_counts a_oldNumbers a_newWall a_asAt a_asGate a_asWay a_asWide a_asTall a_asWall k_status k_thrown k_has k_width k_height k_barges k_undoMany k_redoMany k_whyStep k_whyWhat k_whyWho k_hasPlan k_planMany k_stands k_edges k_outs k_seed k_asWidth k_asHeight k_kind k_size k_way v1 _ hc_14) (cwV 1 hts gX7_againstAny_X7_wide rfl rfl rfl (by decide +kernel) ⟨Nat.le_of_ble_eq_true rfl, Nat.le_of_ble_eq_true rfl⟩) ⟨fun a U g mk q => by obtain ⟨q0, qP, qK, qN⟩ := q; exact ⟨q0, qP, va_K.moved (u := U) (U := U.calling g mk a) (Vm.Alike.refl U.vm) qK, jNw_same (u := U) (U := U.calling g mk a) rfl qN⟩, va_recv hK hP (ci := 7) (q0 := 0) rfl rfl, fun U hU hW => ⟨rfl, by rw [hU]; exact hP.sub [0, 2, 3, 4] rfl, va_K.moved hW.alike hK, jNw_warm hW hN⟩⟩ rfl rfl hl.1 rfl (lv_room (Nat.le_of_ble_eq_true rfl)) dX7_againstAny_53 ⟨Nat.le_of_ble_eq_true rfl, Nat.le_of_ble_eq_true rfl⟩) (fun r_13 er_15 => ?_)
    subst er_15
    refine lv_iadd hx hb dX7_againstAny_56 ?_
    refine lv_icmp_ge (tgt := 100) hx hb dX7_againstAny_57 (by decide) (fun c_16 => ?_) (fun c_16 => ?_)
    · replace hf := ob_pos c_16 hf
      cases hf
      exact K1 rfl ls (lv_sub hl [0, 1, 2, 3, 4] rfl)
    · replace hf := ob_neg c_16 hf
      refine lv_aload_n hx hb dX7_againstAny_60 rfl (lv_at hl 0 rfl) ?_
      refine va_get (D := D) (ci := 7) (v := .ref a_wall) (C := RX7) (T := TX7) (N := 72) hx hb hts iw_wsX7_againstAny_X7 hown hK hP 0 rfl rfl 8 (by decide) (hts (.fieldLink RX7 19 "BargeBasinModel" "wall" "[Z") (List.mem_of_getElem? (i := 3) (by decide +kernel))) (fun _ h9 => h9) rfl dX7_againstAny_61 ?_
      refine lv_iload hx hb dX7_againstAny_64 (lv_at hl 5 rfl) ?_
      refine lv_bipush (v := 8) hx hb dX7_againstAny_66 (by decide) ?_
      refine lv_iload hx hb dX7_againstAny_68 (lv_at hl 4 rfl) ?_
      refine lv_imul hx hb dX7_againstAny_70 ?_
      refine lv_iadd hx hb dX7_againstAny_71 ?_
      replace hf := ob_grd hf
      obtain ⟨hi_17, hf⟩ := hf
      refine va_zald hx hb hK hP 1 2 rfl rfl hi_17 dX7_againstAny_72 ?_
      refine lv_if_ne (tgt := 92) hx hb dX7_againstAny_73 (by decide) (fun c_18 => ?_) (fun c_18 => ?_)
      · replace hf := ob_neg c_18 hf
        cases hf
        exact K0 rfl ls (lv_sub hl [] rfl)
      · replace hf := ob_pos c_18 hf
        refine lv_aload_n hx hb dX7_againstAny_76 rfl (lv_at hl 0 rfl) ?_
        refine va_get (D := D) (ci := 7) (v := .ref a_who) (C := RX7) (T := TX7) (N := 72) hx hb hts iw_wsX7_againstAny_X7 hown hK hP 0 rfl rfl 46 (by decide) (hts (.fieldLink RX7 118 "BargeBasinModel" "who" "[I") (List.mem_of_getElem? (i := 4) (by decide +kernel))) (fun _ h9 => h9) rfl dX7_againstAny_77 ?_
        refine lv_iload hx hb dX7_againstAny_80 (lv_at hl 5 rfl) ?_
        refine lv_bipush (v := 8) hx hb dX7_againstAny_82 (by decide) ?_
        refine lv_iload hx hb dX7_againstAny_84 (lv_at hl 4 rfl) ?_
        refine lv_imul hx hb dX7_againstAny_86 ?_
        refine lv_iadd hx hb dX7_againstAny_87 ?_
        replace hf := ob_grd hf
        obtain ⟨hi_19, hf⟩ := hf
        refine va_iald hx hb hK hP 5 0 rfl rfl hi_19 dX7_againstAny_88 ?_
        refine lv_if_lt (tgt := 94) hx hb dX7_againstAny_89 (by decide) (fun c_20 => ?_) (fun c_20 => ?_)
        · replace hf := ob_pos c_20 hf
          obtain ⟨v5_21, ev5_21⟩ : ∃ y : Int32, y = v5 + 1 := ⟨_, rfl⟩
          replace hf := ob_nm ev5_21 hf
          refine lv_iinc (v := v5_21) (lv' := [(5, .int v5_21), (0, .ref a_t), (1, .int v1), (2, .int v2), (3, .int v3), (4, .int v4)]) hx hb dX7_againstAny_94 hl (k := 5) rfl (by rw [ev5_21]; rfl) (by decide) rfl (fun ls hl => ?_)
          refine lv_goto (tgt := 48) hx hb dX7_againstAny_97 (by decide) ?_
          exact ih _ ex hf ls (lv_sub hl [1, 2, 3, 4, 5, 0] rfl) K0 K1
        · replace hf := ob_neg c_20 hf
          cases hf
          exact K0 rfl ls (lv_sub hl [] rfl)
set_option maxHeartbeats 4000000 in
set_option maxRecDepth 100000 in
theorem l_f_BargeBasinModel_againstAny_L33 {p : Program} {l : Launch} {e : Env} {s : State} {m : MethodId} {args : Array Value} {below : List Frame} {meth : Method} {c : Code} {Q : State → Prop} {D : va_G} {cT : Nat → ClassId} {a_t a_lineSort a_lineMany a_numbers a_wall a_kind a_at a_size a_way a_gate a_undoBarge a_undoFrom a_undoTo a_redoBarge a_redoFrom a_redoTo a_planBarge a_planWay a_planSteps a_places a_heads a_chain a_depth a_parent a_byBarge a_byWay a_bySteps a_far a_firstEdge a_edge a_edgeBarge a_count a_who a_here a_isKept a_keptWidth a_keptHeight a_keptBarges a_keptWall a_keptKind a_keptAt a_keptSize a_keptWay a_keptGate a_out a_counts a_oldNumbers a_newWall a_asAt a_asGate a_asWay a_asWide a_asTall a_asWall : Nat} {k_status : Int32} {k_thrown : Int32} {k_has : Int32} {k_width : Int32} {k_height : Int32} {k_barges : Int32} {k_undoMany : Int32} {k_redoMany : Int32} {k_whyStep : Int32} {k_whyWhat : Int32} {k_whyWho : Int32} {k_hasPlan : Int32} {k_planMany : Int32} {k_stands : Int32} {k_edges : Int32} {k_outs : Int32} {k_seed : Int32} {k_asWidth : Int32} {k_asHeight : Int32} {k_wall : Nat → Int32} {k_kind : Nat → Int32} {k_size : Nat → Int32} {k_way : Nat → Int32} {k_who : Nat → Int32} {v1 : Int32} {v2 : Int32} {v3 : Int32} (hx : p.tables.exec = Jvm.exec) (hb : c.code = cX7_againstAny) (hml : c.maxLocals = 6) (hown : s.vm.findClass RX7 = some m.cls) (hts : ∀ w ∈ wsX7_againstAny, w.before args s = true) (hK : va_K D vwCl (jT cT) s) (hN : jNw s) (hP : va_P D vwCl [(a_t, .inr (7, [.int k_status, .int k_thrown, .int k_has, .int k_width, .int k_height, .ref a_lineSort, .ref a_lineMany, .ref a_numbers, .ref a_wall, .int k_barges, .ref a_kind, .ref a_at, .ref a_size, .ref a_way, .ref a_gate, .int k_undoMany, .int k_redoMany, .ref a_undoBarge, .ref a_undoFrom, .ref a_undoTo, .ref a_redoBarge, .ref a_redoFrom, .ref a_redoTo, .int k_whyStep, .int k_whyWhat, .int k_whyWho, .int k_hasPlan, .int k_planMany, .ref a_planBarge, .ref a_planWay, .ref a_planSteps, .int k_stands, .ref a_places, .ref a_heads, .ref a_chain, .ref a_depth, .ref a_parent, .ref a_byBarge, .ref a_byWay, .ref a_bySteps, .ref a_far, .ref a_firstEdge, .ref a_edge, .ref a_edgeBarge, .int k_edges, .ref a_count, .ref a_who, .ref a_here, .ref a_isKept, .ref a_keptWidth, .ref a_keptHeight, .ref a_keptBarges, .ref a_keptWall, .ref a_keptKind, .ref a_keptAt, .ref a_keptSize, .ref a_keptWay, .ref a_keptGate, .ref a_out, .int k_outs, .ref a_counts, .ref a_oldNumbers, .int k_seed, .ref a_newWall, .int k_asWidth, .int k_asHeight, .ref a_asAt, .ref a_asGate, .ref a_asWay, .ref a_asWide, .ref a_asTall, .ref a_asWall])), (a_wall, .inl (cT 2, 64, .inl k_wall)), (a_kind, .inl (cT 0, 12, .inl k_kind)), (a_size, .inl (cT 0, 12, .inl k_size)), (a_way, .inl (cT 0, 12, .inl k_way)), (a_who, .inl (cT 0, 64, .inl k_who))] s.heap) : ∀ (n : Nat) (v4 : Int32) (ex : (Unit) ⊕ (Unit)), f_BargeBasinModel_againstAny_L33 v1 v2 v3 k_wall k_kind k_size k_way k_who n v4 = some ex → ∀ (ls : Array Slot), lv_has ls 6 [(0, .ref a_t), (1, .int v1), (2, .int v2), (3, .int v3), (4, .int v4)] → (ex = .inl (()) → ∀ (ls : Array Slot), lv_has ls 6 [] → W p l e (headSpec wsX7_againstAny rm_BargeBasinModel_againstAny).room s m args below meth c s.heap [] 0 0 Q (F0 m 92 ls [])) → (ex = .inr (()) → ∀ (ls : Array Slot), lv_has ls 6 [] → W p l e (headSpec wsX7_againstAny rm_BargeBasinModel_againstAny).room s m args below meth c s.heap [] 0 0 Q (F0 m 106 ls [])) → W p l e (headSpec wsX7_againstAny rm_BargeBasinModel_againstAny).room s m args below meth c s.heap [] 0 0 Q (F0 m 33 ls []) := by
  intro n
  induction n with
  | zero => intro v4 ex hf; exact (ob_none hf).elim
  | succ n ih =>
    intro v4 ex hf ls hl K0 K1
    rw [f_BargeBasinModel_againstAny_L33] at hf
    refine lv_iload hx hb dX7_againstAny_33 (lv_at hl 4 rfl) ?_
    refine lv_iload_n hx hb dX7_againstAny_35 rfl (lv_at hl 3 rfl) ?_
    refine lv_aload_n hx hb dX7_againstAny_36 rfl (lv_at hl 0 rfl) ?_
    refine lv_iload_n hx hb dX7_againstAny_37 rfl (lv_at hl 1 rfl) ?_
    replace hf := ob_b hf
    obtain ⟨zr_9, hc_10, hf⟩ := hf
    refine vp_callSi (W.runV (As := [.int v1]) (rest := [.int v3, .int v4]) ⟨hx, hb, hml, hown, hts⟩ (c_f_BargeBasinModel_tall l D cT a_t a_lineSort a_lineMany a_numbers a_wall a_kind a_at a_size a_way a_gate a_undoBarge a_undoFrom a_undoTo a_redoBarge a_redoFrom a_redoTo a_planBarge a_planWay a_planSteps a_places a_heads a_chain a_depth a_parent a_byBarge a_byWay a_bySteps a_far a_firstEdge a_edge a_edgeBarge a_count a_who a_here a_isKept a_keptWidth a_keptHeight a_keptBarges a_keptWall a_keptKind a_keptAt a_keptSize a_keptWay a_keptGate a_out a_counts a_oldNumbers a_newWall a_asAt a_asGate a_asWay a_asWide a_asTall a_asWall k_status k_thrown k_has k_width k_height k_barges k_undoMany k_redoMany k_whyStep k_whyWhat k_whyWho k_hasPlan k_planMany k_stands k_edges k_outs k_seed k_asWidth k_asHeight k_kind k_size k_way v1 _ hc_10) (cwV 1 hts gX7_againstAny_X7_tall rfl rfl rfl (by decide +kernel) ⟨Nat.le_of_ble_eq_true rfl, Nat.le_of_ble_eq_true rfl⟩) ⟨fun a U g mk q => by obtain ⟨q0, qP, qK, qN⟩ := q; exact ⟨q0, qP, va_K.moved (u := U) (U := U.calling g mk a) (Vm.Alike.refl U.vm) qK, jNw_same (u := U) (U := U.calling g mk a) rfl qN⟩, va_recv hK hP (ci := 7) (q0 := 0) rfl rfl, fun U hU hW => ⟨rfl, by rw [hU]; exact hP.sub [0, 2, 3, 4] rfl, va_K.moved hW.alike hK, jNw_warm hW hN⟩⟩ rfl rfl hl.1 rfl (lv_room (Nat.le_of_ble_eq_true rfl)) dX7_againstAny_38 ⟨Nat.le_of_ble_eq_true rfl, Nat.le_of_ble_eq_true rfl⟩) (fun r_9 er_11 => ?_)
    subst er_11
    refine lv_iadd hx hb dX7_againstAny_41 ?_
    refine lv_icmp_ge (tgt := 106) hx hb dX7_againstAny_42 (by decide) (fun c_12 => ?_) (fun c_12 => ?_)
    · replace hf := ob_pos c_12 hf
      cases hf
      exact K1 rfl ls (lv_sub hl [] rfl)
    · replace hf := ob_neg c_12 hf
      refine lv_iload_n hx hb dX7_againstAny_45 rfl (lv_at hl 2 rfl) ?_
      refine lv_istore (lv' := [(5, .int v2), (0, .ref a_t), (1, .int v1), (2, .int v2), (3, .int v3), (4, .int v4)]) hx hb dX7_againstAny_46 hl (by decide) rfl (fun ls hl => ?_)
      replace hf := ob_b hf
      obtain ⟨ex_22, hq_23, hf⟩ := hf
      refine l_f_BargeBasinModel_againstAny_L48 hx hb hml hown hts hK hN hP jN _ ex_22 hq_23 ls (lv_sub hl [1, 2, 3, 4, 5, 0] rfl) (fun ee_24 ls hl => ?_) (fun ee_26 ls hl => ?_)
      · subst ee_24
        replace hf := ob_inl hf
        replace hf := ob_un0 hf
        cases hf
        exact K0 rfl ls (lv_sub hl [] rfl)
      · subst ee_26
        replace hf := ob_inr hf
        replace hf := ob_un0 hf
        obtain ⟨v4_25, ev4_25⟩ : ∃ y : Int32, y = v4 + 1 := ⟨_, rfl⟩
        replace hf := ob_nm ev4_25 hf
        refine lv_iinc (v := v4_25) (lv' := [(4, .int v4_25), (0, .ref a_t), (1, .int v1), (2, .int v2), (3, .int v3)]) hx hb dX7_againstAny_100 hl (k := 4) rfl (by rw [ev4_25]; rfl) (by decide) rfl (fun ls hl => ?_)
        refine lv_goto (tgt := 33) hx hb dX7_againstAny_103 (by decide) ?_
        exact ih _ ex hf ls (lv_sub hl [1, 2, 3, 4, 0] rfl) K0 K1
set_option maxHeartbeats 4000000 in
set_option maxRecDepth 100000 in
theorem c_f_BargeBasinModel_againstAny (l : Launch) (D : va_G) (cT : Nat → ClassId) (a_t a_lineSort a_lineMany a_numbers a_wall a_kind a_at a_size a_way a_gate a_undoBarge a_undoFrom a_undoTo a_redoBarge a_redoFrom a_redoTo a_planBarge a_planWay a_planSteps a_places a_heads a_chain a_depth a_parent a_byBarge a_byWay a_bySteps a_far a_firstEdge a_edge a_edgeBarge a_count a_who a_here a_isKept a_keptWidth a_keptHeight a_keptBarges a_keptWall a_keptKind a_keptAt a_keptSize a_keptWay a_keptGate a_out a_counts a_oldNumbers a_newWall a_asAt a_asGate a_asWay a_asWide a_asTall a_asWall : Nat) (k_status : Int32) (k_thrown : Int32) (k_has : Int32) (k_width : Int32) (k_height : Int32) (k_barges : Int32) (k_undoMany : Int32) (k_redoMany : Int32) (k_whyStep : Int32) (k_whyWhat : Int32) (k_whyWho : Int32) (k_hasPlan : Int32) (k_planMany : Int32) (k_stands : Int32) (k_edges : Int32) (k_outs : Int32) (k_seed : Int32) (k_asWidth : Int32) (k_asHeight : Int32) (k_wall : Nat → Int32) (k_kind : Nat → Int32) (k_size : Nat → Int32) (k_way : Nat → Int32) (k_who : Nat → Int32) (v1 : Int32) (v2 : Int32) (v3 : Int32) (r0 : Int32) (hf : f_BargeBasinModel_againstAny v1 v2 v3 k_width k_height k_wall k_kind k_size k_way k_who = some r0) : Met l yX7_againstAny wsX7_againstAny rm_BargeBasinModel_againstAny (va_Pc [.ref a_t, .int v1, .int v2, .int v3] (fun U => va_P D vwCl [(a_t, .inr (7, [.int k_status, .int k_thrown, .int k_has, .int k_width, .int k_height, .ref a_lineSort, .ref a_lineMany, .ref a_numbers, .ref a_wall, .int k_barges, .ref a_kind, .ref a_at, .ref a_size, .ref a_way, .ref a_gate, .int k_undoMany, .int k_redoMany, .ref a_undoBarge, .ref a_undoFrom, .ref a_undoTo, .ref a_redoBarge, .ref a_redoFrom, .ref a_redoTo, .int k_whyStep, .int k_whyWhat, .int k_whyWho, .int k_hasPlan, .int k_planMany, .ref a_planBarge, .ref a_planWay, .ref a_planSteps, .int k_stands, .ref a_places, .ref a_heads, .ref a_chain, .ref a_depth, .ref a_parent, .ref a_byBarge, .ref a_byWay, .ref a_bySteps, .ref a_far, .ref a_firstEdge, .ref a_edge, .ref a_edgeBarge, .int k_edges, .ref a_count, .ref a_who, .ref a_here, .ref a_isKept, .ref a_keptWidth, .ref a_keptHeight, .ref a_keptBarges, .ref a_keptWall, .ref a_keptKind, .ref a_keptAt, .ref a_keptSize, .ref a_keptWay, .ref a_keptGate, .ref a_out, .int k_outs, .ref a_counts, .ref a_oldNumbers, .int k_seed, .ref a_newWall, .int k_asWidth, .int k_asHeight, .ref a_asAt, .ref a_asGate, .ref a_asWay, .ref a_asWide, .ref a_asTall, .ref a_asWall])), (a_wall, .inl (cT 2, 64, .inl k_wall)), (a_kind, .inl (cT 0, 12, .inl k_kind)), (a_size, .inl (cT 0, 12, .inl k_size)), (a_way, .inl (cT 0, 12, .inl k_way)), (a_who, .inl (cT 0, 64, .inl k_who))] U.heap ∧ va_K D vwCl (jT cT) U ∧ jNw U)) (vp_Si (fun r => r = r0)) 0 0 (fun _ => False) := by
  refine Met.ofW (cc := cX7_againstAny) (maxL := 6) (ret := (some .int)) (by decide) rfl ?_
  intro p e s m args below meth c s₁ B hml hv
  obtain ⟨rfl, hP, hK, hN⟩ := hv
  have hx := B.exec
  have hb := B.bytes
  have hr := B.returns
  have hts := atoms_spec (ws := wsX7_againstAny) B.pre
  have hown : s.vm.findClass RX7 = some m.cls := findClass_of_methodNamed B.named
  have hlocks := B.notSynchronized
  have hl := lv_entry ([.ref a_t, .int v1, .int v2, .int v3]) (n := 6) (Nat.le_of_ble_eq_true rfl)
  rw [lg_entry_eq]
  generalize (lg_sl ([.ref a_t, .int v1, .int v2, .int v3]) ++ List.replicate (6 - (lg_sl ([.ref a_t, .int v1, .int v2, .int v3])).length) Slot.unset).toArray = ls at hl ⊢
  have hl : lv_has ls 6 [(0, .ref a_t), (1, .int v1), (2, .int v2), (3, .int v3)] := hl
  unfold f_BargeBasinModel_againstAny at hf
  refine lv_iload_n hx hb dX7_againstAny_0 rfl (lv_at hl 2 rfl) ?_
  refine lv_aload_n hx hb dX7_againstAny_1 rfl (lv_at hl 0 rfl) ?_
  refine lv_iload_n hx hb dX7_againstAny_2 rfl (lv_at hl 1 rfl) ?_
  replace hf := ob_b hf
  obtain ⟨zr_1, hc_2, hf⟩ := hf
  refine vp_callSi (W.runV (As := [.int v1]) (rest := [.int v2]) ⟨hx, hb, hml, hown, hts⟩ (c_f_BargeBasinModel_wide l D cT a_t a_lineSort a_lineMany a_numbers a_wall a_kind a_at a_size a_way a_gate a_undoBarge a_undoFrom a_undoTo a_redoBarge a_redoFrom a_redoTo a_planBarge a_planWay a_planSteps a_places a_heads a_chain a_depth a_parent a_byBarge a_byWay a_bySteps a_far a_firstEdge a_edge a_edgeBarge a_count a_who a_here a_isKept a_keptWidth a_keptHeight a_keptBarges a_keptWall a_keptKind a_keptAt a_keptSize a_keptWay a_keptGate a_out a_counts a_oldNumbers a_newWall a_asAt a_asGate a_asWay a_asWide a_asTall a_asWall k_status k_thrown k_has k_width k_height k_barges k_undoMany k_redoMany k_whyStep k_whyWhat k_whyWho k_hasPlan k_planMany k_stands k_edges k_outs k_seed k_asWidth k_asHeight k_kind k_size k_way v1 _ hc_2) (cwV 1 hts gX7_againstAny_X7_wide rfl rfl rfl (by decide +kernel) ⟨Nat.le_of_ble_eq_true rfl, Nat.le_of_ble_eq_true rfl⟩) ⟨fun a U g mk q => by obtain ⟨q0, qP, qK, qN⟩ := q; exact ⟨q0, qP, va_K.moved (u := U) (U := U.calling g mk a) (Vm.Alike.refl U.vm) qK, jNw_same (u := U) (U := U.calling g mk a) rfl qN⟩, va_recv hK hP (ci := 7) (q0 := 0) rfl rfl, fun U hU hW => ⟨rfl, by rw [hU]; exact hP.sub [0, 2, 3, 4] rfl, va_K.moved hW.alike hK, jNw_warm hW hN⟩⟩ rfl rfl hl.1 rfl (lv_room (Nat.le_of_ble_eq_true rfl)) dX7_againstAny_3 ⟨Nat.le_of_ble_eq_true rfl, Nat.le_of_ble_eq_true rfl⟩) (fun r_1 er_3 => ?_)
  subst er_3
  refine lv_iadd hx hb dX7_againstAny_6 ?_
  refine lv_aload_n hx hb dX7_againstAny_7 rfl (lv_at hl 0 rfl) ?_
  refine va_get (D := D) (ci := 7) (v := .int k_width) (C := RX7) (T := TX7) (N := 72) hx hb hts iw_wsX7_againstAny_X7 hown hK hP 0 rfl rfl 3 (by decide) (hts (.fieldLink RX7 190 "BargeBasinModel" "width" "I") (List.mem_of_getElem? (i := 1) (by decide +kernel))) (fun _ h9 => h9) rfl dX7_againstAny_8 ?_
  refine lv_icmp_gt (tgt := 28) hx hb dX7_againstAny_11 (by decide) (fun c_4 => ?_) (fun c_4 => ?_)
  · replace hf := ob_pos c_4 hf
    refine lv_iconst (v := 2) hx hb dX7_againstAny_28 (by decide) ?_
    cases hf
    exact W.iret hx hb hr (fun t ht hW => ⟨_, rfl, rfl, ht⟩) (fun q h => by cases h) dX7_againstAny_29
  · replace hf := ob_neg c_4 hf
    refine lv_iload_n hx hb dX7_againstAny_14 rfl (lv_at hl 3 rfl) ?_
    refine lv_aload_n hx hb dX7_againstAny_15 rfl (lv_at hl 0 rfl) ?_
    refine lv_iload_n hx hb dX7_againstAny_16 rfl (lv_at hl 1 rfl) ?_
    replace hf := ob_b hf
    obtain ⟨zr_5, hc_6, hf⟩ := hf
    refine vp_callSi (W.runV (As := [.int v1]) (rest := [.int v3]) ⟨hx, hb, hml, hown, hts⟩ (c_f_BargeBasinModel_tall l D cT a_t a_lineSort a_lineMany a_numbers a_wall a_kind a_at a_size a_way a_gate a_undoBarge a_undoFrom a_undoTo a_redoBarge a_redoFrom a_redoTo a_planBarge a_planWay a_planSteps a_places a_heads a_chain a_depth a_parent a_byBarge a_byWay a_bySteps a_far a_firstEdge a_edge a_edgeBarge a_count a_who a_here a_isKept a_keptWidth a_keptHeight a_keptBarges a_keptWall a_keptKind a_keptAt a_keptSize a_keptWay a_keptGate a_out a_counts a_oldNumbers a_newWall a_asAt a_asGate a_asWay a_asWide a_asTall a_asWall k_status k_thrown k_has k_width k_height k_barges k_undoMany k_redoMany k_whyStep k_whyWhat k_whyWho k_hasPlan k_planMany k_stands k_edges k_outs k_seed k_asWidth k_asHeight k_kind k_size k_way v1 _ hc_6) (cwV 1 hts gX7_againstAny_X7_tall rfl rfl rfl (by decide +kernel) ⟨Nat.le_of_ble_eq_true rfl, Nat.le_of_ble_eq_true rfl⟩) ⟨fun a U g mk q => by obtain ⟨q0, qP, qK, qN⟩ := q; exact ⟨q0, qP, va_K.moved (u := U) (U := U.calling g mk a) (Vm.Alike.refl U.vm) qK, jNw_same (u := U) (U := U.calling g mk a) rfl qN⟩, va_recv hK hP (ci := 7) (q0 := 0) rfl rfl, fun U hU hW => ⟨rfl, by rw [hU]; exact hP.sub [0, 2, 3, 4] rfl, va_K.moved hW.alike hK, jNw_warm hW hN⟩⟩ rfl rfl hl.1 rfl (lv_room (Nat.le_of_ble_eq_true rfl)) dX7_againstAny_17 ⟨Nat.le_of_ble_eq_true rfl, Nat.le_of_ble_eq_true rfl⟩) (fun r_5 er_7 => ?_)
    subst er_7
    refine lv_iadd hx hb dX7_againstAny_20 ?_
    refine lv_aload_n hx hb dX7_againstAny_21 rfl (lv_at hl 0 rfl) ?_
    refine va_get (D := D) (ci := 7) (v := .int k_height) (C := RX7) (T := TX7) (N := 72) hx hb hts iw_wsX7_againstAny_X7 hown hK hP 0 rfl rfl 4 (by decide) (hts (.fieldLink RX7 193 "BargeBasinModel" "height" "I") (List.mem_of_getElem? (i := 2) (by decide +kernel))) (fun _ h9 => h9) rfl dX7_againstAny_22 ?_
    refine lv_icmp_le (tgt := 30) hx hb dX7_againstAny_25 (by decide) (fun c_8 => ?_) (fun c_8 => ?_)
    · replace hf := ob_pos c_8 hf
      refine lv_iload_n hx hb dX7_againstAny_30 rfl (lv_at hl 3 rfl) ?_
      refine lv_istore (lv' := [(4, .int v3), (0, .ref a_t), (1, .int v1), (2, .int v2), (3, .int v3)]) hx hb dX7_againstAny_31 hl (by decide) rfl (fun ls hl => ?_)
      replace hf := ob_b hf
      obtain ⟨ex_27, hq_28, hf⟩ := hf
      refine l_f_BargeBasinModel_againstAny_L33 hx hb hml hown hts hK hN hP jN _ ex_27 hq_28 ls (lv_sub hl [1, 2, 3, 4, 0] rfl) (fun ee_29 ls hl => ?_) (fun ee_30 ls hl => ?_)
      · subst ee_29
        replace hf := ob_inl hf
        replace hf := ob_un0 hf
        refine lv_iconst (v := 3) hx hb dX7_againstAny_92 (by decide) ?_
        cases hf
        exact W.iret hx hb hr (fun t ht hW => ⟨_, rfl, rfl, ht⟩) (fun q h => by cases h) dX7_againstAny_93
      · subst ee_30
        replace hf := ob_inr hf
        replace hf := ob_un0 hf
        refine lv_iconst (v := 0) hx hb dX7_againstAny_106 (by decide) ?_
        cases hf
        exact W.iret hx hb hr (fun t ht hW => ⟨_, rfl, rfl, ht⟩) (fun q h => by cases h) dX7_againstAny_107
    · replace hf := ob_neg c_8 hf
      refine lv_iconst (v := 2) hx hb dX7_againstAny_28 (by decide) ?_
      cases hf
      exact W.iret hx hb hr (fun t ht hW => ⟨_, rfl, rfl, ht⟩) (fun q h => by cases h) dX7_againstAny_29
