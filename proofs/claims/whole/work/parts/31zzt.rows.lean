theorem iw_wsX7_hasLike_X7 : ∀ w ∈ wsX70, w ∈ wsX7_hasLike := fun _ h => List.mem_cons_of_mem _ (List.mem_append_right _ h)
abbrev rm_BargeBasinModel_hasLike : Room := { frames := 0, cells := 0, slots := 0, locals := 0 }
set_option maxHeartbeats 4000000 in
set_option maxRecDepth 100000 in
theorem l_f_BargeBasinModel_hasLike_L5 {p : Program} {l : Launch} {e : Env} {s : State} {m : MethodId} {args : Array Value} {below : List Frame} {meth : Method} {c : Code} {Q : State → Prop} {D : va_G} {cT : Nat → ClassId} {a_t a_lineSort a_lineMany a_numbers a_wall a_kind a_at a_size a_way a_gate a_undoBarge a_undoFrom a_undoTo a_redoBarge a_redoFrom a_redoTo a_planBarge a_planWay a_planSteps a_places a_heads a_chain a_depth a_parent a_byBarge a_byWay a_bySteps a_far a_firstEdge a_edge a_edgeBarge a_count a_who a_here a_isKept a_keptWidth a_keptHeight a_keptBarges a_keptWall a_keptKind a_keptAt a_keptSize a_keptWay a_keptGate a_out a_counts a_oldNumbers a_newWall a_asAt a_asGate a_asWay a_asWide a_asTall a_asWall : Nat} {k_status : Int32} {k_thrown : Int32} {k_has : Int32} {k_width : Int32} {k_height : Int32} {k_barges : Int32} {k_undoMany : Int32} {k_redoMany : Int32} {k_whyStep : Int32} {k_whyWhat : Int32} {k_whyWho : Int32} {k_hasPlan : Int32} {k_planMany : Int32} {k_stands : Int32} {k_edges : Int32} {k_outs : Int32} {k_seed : Int32} {k_asWidth : Int32} {k_asHeight : Int32} {k_kind : Nat → Int32} {k_size : Nat → Int32} {k_keptKind : Nat → Int32} {k_keptAt : Nat → Int32} {k_keptSize : Nat → Int32} {k_keptWay : Nat → Int32} {k_keptGate : Nat → Int32} {k_asAt : Nat → Int32} {k_asGate : Nat → Int32} {k_asWay : Nat → Int32} {v1 : Int32} {v2 : Int32} (hx : p.tables.exec = Jvm.exec) (hb : c.code = cX7_hasLike) (hml : c.maxLocals = 5) (hown : s.vm.findClass RX7 = some m.cls) (hts : ∀ w ∈ wsX7_hasLike, w.before args s = true) (hK : va_K D vwCl (jT cT) s) (hN : jNw s) (hP : va_P D vwCl [(a_t, .inr (7, [.int k_status, .int k_thrown, .int k_has, .int k_width, .int k_height, .ref a_lineSort, .ref a_lineMany, .ref a_numbers, .ref a_wall, .int k_barges, .ref a_kind, .ref a_at, .ref a_size, .ref a_way, .ref a_gate, .int k_undoMany, .int k_redoMany, .ref a_undoBarge, .ref a_undoFrom, .ref a_undoTo, .ref a_redoBarge, .ref a_redoFrom, .ref a_redoTo, .int k_whyStep, .int k_whyWhat, .int k_whyWho, .int k_hasPlan, .int k_planMany, .ref a_planBarge, .ref a_planWay, .ref a_planSteps, .int k_stands, .ref a_places, .ref a_heads, .ref a_chain, .ref a_depth, .ref a_parent, .ref a_byBarge, .ref a_byWay, .ref a_bySteps, .ref a_far, .ref a_firstEdge, .ref a_edge, .ref a_edgeBarge, .int k_edges, .ref a_count, .ref a_who, .ref a_here, .ref a_isKept, .ref a_keptWidth, .ref a_keptHeight, .ref a_keptBarges, .ref a_keptWall, .ref a_keptKind, .ref a_keptAt, .ref a_keptSize, .ref a_keptWay, .ref a_keptGate, .ref a_out, .int k_outs, .ref a_counts, .ref a_oldNumbers, .int k_seed, .ref a_newWall, .int k_asWidth, .int k_asHeight, .ref a_asAt, .ref a_asGate, .ref a_asWay, .ref a_asWide, .ref a_asTall, .ref a_asWall])), (a_kind, .inl (cT 0, 12, .inl k_kind)), (a_size, .inl (cT 0, 12, .inl k_size)), (a_keptKind, .inl (cT 0, 48, .inl k_keptKind)), (a_keptAt, .inl (cT 0, 48, .inl k_keptAt)), (a_keptSize, .inl (cT 0, 48, .inl k_keptSize)), (a_keptWay, .inl (cT 0, 48, .inl k_keptWay)), (a_keptGate, .inl (cT 0, 48, .inl k_keptGate)), (a_asAt, .inl (cT 0, 12, .inl k_asAt)), (a_asGate, .inl (cT 0, 12, .inl k_asGate)), (a_asWay, .inl (cT 0, 12, .inl k_asWay))] s.heap) : ∀ (n : Nat) (v3 : Int32) (ex : (Unit) ⊕ (Unit)), f_BargeBasinModel_hasLike_L5 v1 v2 k_barges k_kind k_size k_keptKind k_keptAt k_keptSize k_keptWay k_keptGate k_asAt k_asGate k_asWay n v3 = some ex → ∀ (ls : Array Slot), lv_has ls 5 [(0, .ref a_t), (1, .int v1), (2, .int v2), (3, .int v3)] → (ex = .inl (()) → ∀ (ls : Array Slot), lv_has ls 5 [] → W p l e (headSpec wsX7_hasLike rm_BargeBasinModel_hasLike).room s m args below meth c s.heap [] 0 0 Q (F0 m 115 ls [])) → (ex = .inr (()) → ∀ (ls : Array Slot), lv_has ls 5 [] → W p l e (headSpec wsX7_hasLike rm_BargeBasinModel_hasLike).room s m args below meth c s.heap [] 0 0 Q (F0 m 123 ls [])) → W p l e (headSpec wsX7_hasLike rm_BargeBasinModel_hasLike).room s m args below meth c s.heap [] 0 0 Q (F0 m 5 ls []) := by
  intro n
  induction n with
  | zero => intro v3 ex hf; exact (ob_none hf).elim
  | succ n ih =>
    intro v3 ex hf ls hl K0 K1
    have J83 : ∀ (v3 : Int32) (s0 : Int32), f_BargeBasinModel_hasLike_J83 (f_BargeBasinModel_hasLike_L5 v1 v2 k_barges k_kind k_size k_keptKind k_keptAt k_keptSize k_keptWay k_keptGate k_asAt k_asGate k_asWay n) v1 v2 v3 s0 k_kind k_keptGate k_asGate = some ex → ∀ (ls : Array Slot), lv_has ls 5 [(0, .ref a_t), (1, .int v1), (2, .int v2), (3, .int v3)] → W p l e (headSpec wsX7_hasLike rm_BargeBasinModel_hasLike).room s m args below meth c s.heap [] 0 0 Q (F0 m 83 ls [.int s0]) := by
      intro v3 s0 hf ls hl
      unfold f_BargeBasinModel_hasLike_J83 at hf
      refine lv_istore (lv' := [(4, .int s0), (0, .ref a_t), (1, .int v1), (2, .int v2), (3, .int v3)]) hx hb dX7_hasLike_83 hl (by decide) rfl (fun ls hl => ?_)
      refine lv_iload hx hb dX7_hasLike_85 (lv_at hl 0 rfl) ?_
      refine lv_if_eq (tgt := 117) hx hb dX7_hasLike_87 (by decide) (fun c_6 => ?_) (fun c_6 => ?_)
      · replace hf := ob_pos c_6 hf
        obtain ⟨v3_7, ev3_7⟩ : ∃ y : Int32, y = v3 + 1 := ⟨_, rfl⟩
        replace hf := ob_nm ev3_7 hf
        refine lv_iinc (v := v3_7) (lv' := [(3, .int v3_7), (4, .int s0), (0, .ref a_t), (1, .int v1), (2, .int v2)]) hx hb dX7_hasLike_117 hl (k := 4) rfl (by rw [ev3_7]; rfl) (by decide) rfl (fun ls hl => ?_)
        refine lv_goto (tgt := 5) hx hb dX7_hasLike_120 (by decide) ?_
        exact ih _ ex hf ls (lv_sub hl [2, 3, 4, 0] rfl) K0 K1
      · replace hf := ob_neg c_6 hf
        refine lv_aload_n hx hb dX7_hasLike_90 rfl (lv_at hl 1 rfl) ?_
        refine va_get (D := D) (ci := 7) (v := .ref a_kind) (C := RX7) (T := TX7) (N := 72) hx hb hts iw_wsX7_hasLike_X7 hown hK hP 0 rfl rfl 10 (by decide) (hts (.fieldLink RX7 23 "BargeBasinModel" "kind" "[I") (List.mem_of_getElem? (i := 5) (by decide +kernel))) (fun _ h9 => h9) rfl dX7_hasLike_91 ?_
        refine lv_iload_n hx hb dX7_hasLike_94 rfl (lv_at hl 3 rfl) ?_
        replace hf := ob_grd hf
        obtain ⟨hi_8, hf⟩ := hf
        refine va_iald hx hb hK hP 1 0 rfl rfl hi_8 dX7_hasLike_95 ?_
        refine lv_iconst (v := 5) hx hb dX7_hasLike_96 (by decide) ?_
        refine lv_icmp_ne (tgt := 115) hx hb dX7_hasLike_97 (by decide) (fun c_9 => ?_) (fun c_9 => ?_)
        · replace hf := ob_neg c_9 hf
          cases hf
          exact K0 rfl ls (lv_sub hl [] rfl)
        · replace hf := ob_pos c_9 hf
          refine lv_aload_n hx hb dX7_hasLike_100 rfl (lv_at hl 1 rfl) ?_
          refine va_get (D := D) (ci := 7) (v := .ref a_keptGate) (C := RX7) (T := TX7) (N := 72) hx hb hts iw_wsX7_hasLike_X7 hown hK hP 0 rfl rfl 57 (by decide) (hts (.fieldLink RX7 151 "BargeBasinModel" "keptGate" "[I") (List.mem_of_getElem? (i := 10) (by decide +kernel))) (fun _ h9 => h9) rfl dX7_hasLike_101 ?_
          refine lv_iload_n hx hb dX7_hasLike_104 rfl (lv_at hl 4 rfl) ?_
          replace hf := ob_grd hf
          obtain ⟨hi_10, hf⟩ := hf
          refine va_iald hx hb hK hP 7 0 rfl rfl hi_10 dX7_hasLike_105 ?_
          refine lv_aload_n hx hb dX7_hasLike_106 rfl (lv_at hl 1 rfl) ?_
          refine va_get (D := D) (ci := 7) (v := .ref a_asGate) (C := RX7) (T := TX7) (N := 72) hx hb hts iw_wsX7_hasLike_X7 hown hK hP 0 rfl rfl 67 (by decide) (hts (.fieldLink RX7 169 "BargeBasinModel" "asGate" "[I") (List.mem_of_getElem? (i := 11) (by decide +kernel))) (fun _ h9 => h9) rfl dX7_hasLike_107 ?_
          refine lv_iload_n hx hb dX7_hasLike_110 rfl (lv_at hl 3 rfl) ?_
          replace hf := ob_grd hf
          obtain ⟨hi_11, hf⟩ := hf
          refine va_iald hx hb hK hP 9 0 rfl rfl hi_11 dX7_hasLike_111 ?_
          refine lv_icmp_ne (tgt := 117) hx hb dX7_hasLike_112 (by decide) (fun c_12 => ?_) (fun c_12 => ?_)
          · replace hf := ob_neg c_12 hf
            obtain ⟨v3_13, ev3_13⟩ : ∃ y : Int32, y = v3 + 1 := ⟨_, rfl⟩
            replace hf := ob_nm ev3_13 hf
            refine lv_iinc (v := v3_13) (lv' := [(3, .int v3_13), (4, .int s0), (0, .ref a_t), (1, .int v1), (2, .int v2)]) hx hb dX7_hasLike_117 hl (k := 4) rfl (by rw [ev3_13]; rfl) (by decide) rfl (fun ls hl => ?_)
            refine lv_goto (tgt := 5) hx hb dX7_hasLike_120 (by decide) ?_
            exact ih _ ex hf ls (lv_sub hl [2, 3, 4, 0] rfl) K0 K1
          · replace hf := ob_pos c_12 hf
            cases hf
            exact K0 rfl ls (lv_sub hl [] rfl)
    have J82 : ∀ (v3 : Int32), f_BargeBasinModel_hasLike_J82 (f_BargeBasinModel_hasLike_L5 v1 v2 k_barges k_kind k_size k_keptKind k_keptAt k_keptSize k_keptWay k_keptGate k_asAt k_asGate k_asWay n) v1 v2 v3 k_kind k_keptGate k_asGate = some ex → ∀ (ls : Array Slot), lv_has ls 5 [(0, .ref a_t), (1, .int v1), (2, .int v2), (3, .int v3)] → W p l e (headSpec wsX7_hasLike rm_BargeBasinModel_hasLike).room s m args below meth c s.heap [] 0 0 Q (F0 m 82 ls []) := by
      intro v3 hf ls hl
      unfold f_BargeBasinModel_hasLike_J82 at hf
      refine lv_iconst (v := 0) hx hb dX7_hasLike_82 (by decide) ?_
      exact J83 _ _ hf ls (lv_sub hl [0, 1, 2, 3] rfl)
    rw [f_BargeBasinModel_hasLike_L5] at hf
    refine lv_iload_n hx hb dX7_hasLike_5 rfl (lv_at hl 3 rfl) ?_
    refine lv_bipush (v := 12) hx hb dX7_hasLike_6 (by decide) ?_
    refine lv_iload_n hx hb dX7_hasLike_8 rfl (lv_at hl 1 rfl) ?_
    refine lv_imul hx hb dX7_hasLike_9 ?_
    refine lv_aload_n hx hb dX7_hasLike_10 rfl (lv_at hl 0 rfl) ?_
    refine va_get (D := D) (ci := 7) (v := .int k_barges) (C := RX7) (T := TX7) (N := 72) hx hb hts iw_wsX7_hasLike_X7 hown hK hP 0 rfl rfl 9 (by decide) (hts (.fieldLink RX7 216 "BargeBasinModel" "barges" "I") (List.mem_of_getElem? (i := 1) (by decide +kernel))) (fun _ h9 => h9) rfl dX7_hasLike_11 ?_
    refine lv_iadd hx hb dX7_hasLike_14 ?_
    refine lv_icmp_ge (tgt := 123) hx hb dX7_hasLike_15 (by decide) (fun c_2 => ?_) (fun c_2 => ?_)
    · replace hf := ob_pos c_2 hf
      cases hf
      exact K1 rfl ls (lv_sub hl [] rfl)
    · replace hf := ob_neg c_2 hf
      refine lv_aload_n hx hb dX7_hasLike_18 rfl (lv_at hl 0 rfl) ?_
      refine va_get (D := D) (ci := 7) (v := .ref a_keptAt) (C := RX7) (T := TX7) (N := 72) hx hb hts iw_wsX7_hasLike_X7 hown hK hP 0 rfl rfl 54 (by decide) (hts (.fieldLink RX7 142 "BargeBasinModel" "keptAt" "[I") (List.mem_of_getElem? (i := 2) (by decide +kernel))) (fun _ h9 => h9) rfl dX7_hasLike_19 ?_
      refine lv_iload_n hx hb dX7_hasLike_22 rfl (lv_at hl 3 rfl) ?_
      replace hf := ob_grd hf
      obtain ⟨hi_3, hf⟩ := hf
      refine va_iald hx hb hK hP 4 0 rfl rfl hi_3 dX7_hasLike_23 ?_
      refine lv_aload_n hx hb dX7_hasLike_24 rfl (lv_at hl 0 rfl) ?_
      refine va_get (D := D) (ci := 7) (v := .ref a_asAt) (C := RX7) (T := TX7) (N := 72) hx hb hts iw_wsX7_hasLike_X7 hown hK hP 0 rfl rfl 66 (by decide) (hts (.fieldLink RX7 166 "BargeBasinModel" "asAt" "[I") (List.mem_of_getElem? (i := 3) (by decide +kernel))) (fun _ h9 => h9) rfl dX7_hasLike_25 ?_
      refine lv_iload_n hx hb dX7_hasLike_28 rfl (lv_at hl 2 rfl) ?_
      replace hf := ob_grd hf
      obtain ⟨hi_4, hf⟩ := hf
      refine va_iald hx hb hK hP 8 0 rfl rfl hi_4 dX7_hasLike_29 ?_
      refine lv_icmp_ne (tgt := 82) hx hb dX7_hasLike_30 (by decide) (fun c_5 => ?_) (fun c_5 => ?_)
      · replace hf := ob_neg c_5 hf
        exact J82 _ hf ls (lv_sub hl [0, 1, 2, 3] rfl)
      · replace hf := ob_pos c_5 hf
        refine lv_aload_n hx hb dX7_hasLike_33 rfl (lv_at hl 0 rfl) ?_
        refine va_get (D := D) (ci := 7) (v := .ref a_keptKind) (C := RX7) (T := TX7) (N := 72) hx hb hts iw_wsX7_hasLike_X7 hown hK hP 0 rfl rfl 53 (by decide) (hts (.fieldLink RX7 139 "BargeBasinModel" "keptKind" "[I") (List.mem_of_getElem? (i := 4) (by decide +kernel))) (fun _ h9 => h9) rfl dX7_hasLike_34 ?_
        refine lv_iload_n hx hb dX7_hasLike_37 rfl (lv_at hl 3 rfl) ?_
        replace hf := ob_grd hf
        obtain ⟨hi_14, hf⟩ := hf
        refine va_iald hx hb hK hP 3 0 rfl rfl hi_14 dX7_hasLike_38 ?_
        refine lv_aload_n hx hb dX7_hasLike_39 rfl (lv_at hl 0 rfl) ?_
        refine va_get (D := D) (ci := 7) (v := .ref a_kind) (C := RX7) (T := TX7) (N := 72) hx hb hts iw_wsX7_hasLike_X7 hown hK hP 0 rfl rfl 10 (by decide) (hts (.fieldLink RX7 23 "BargeBasinModel" "kind" "[I") (List.mem_of_getElem? (i := 5) (by decide +kernel))) (fun _ h9 => h9) rfl dX7_hasLike_40 ?_
        refine lv_iload_n hx hb dX7_hasLike_43 rfl (lv_at hl 2 rfl) ?_
        replace hf := ob_grd hf
        obtain ⟨hi_15, hf⟩ := hf
        refine va_iald hx hb hK hP 1 0 rfl rfl hi_15 dX7_hasLike_44 ?_
        refine lv_icmp_ne (tgt := 82) hx hb dX7_hasLike_45 (by decide) (fun c_16 => ?_) (fun c_16 => ?_)
        · replace hf := ob_neg c_16 hf
          exact J82 _ hf ls (lv_sub hl [0, 1, 2, 3] rfl)
        · replace hf := ob_pos c_16 hf
          refine lv_aload_n hx hb dX7_hasLike_48 rfl (lv_at hl 0 rfl) ?_
          refine va_get (D := D) (ci := 7) (v := .ref a_keptSize) (C := RX7) (T := TX7) (N := 72) hx hb hts iw_wsX7_hasLike_X7 hown hK hP 0 rfl rfl 55 (by decide) (hts (.fieldLink RX7 145 "BargeBasinModel" "keptSize" "[I") (List.mem_of_getElem? (i := 6) (by decide +kernel))) (fun _ h9 => h9) rfl dX7_hasLike_49 ?_
          refine lv_iload_n hx hb dX7_hasLike_52 rfl (lv_at hl 3 rfl) ?_
          replace hf := ob_grd hf
          obtain ⟨hi_17, hf⟩ := hf
          refine va_iald hx hb hK hP 5 0 rfl rfl hi_17 dX7_hasLike_53 ?_
          refine lv_aload_n hx hb dX7_hasLike_54 rfl (lv_at hl 0 rfl) ?_
          refine va_get (D := D) (ci := 7) (v := .ref a_size) (C := RX7) (T := TX7) (N := 72) hx hb hts iw_wsX7_hasLike_X7 hown hK hP 0 rfl rfl 12 (by decide) (hts (.fieldLink RX7 29 "BargeBasinModel" "size" "[I") (List.mem_of_getElem? (i := 7) (by decide +kernel))) (fun _ h9 => h9) rfl dX7_hasLike_55 ?_
          refine lv_iload_n hx hb dX7_hasLike_58 rfl (lv_at hl 2 rfl) ?_
          replace hf := ob_grd hf
          obtain ⟨hi_18, hf⟩ := hf
          refine va_iald hx hb hK hP 2 0 rfl rfl hi_18 dX7_hasLike_59 ?_
          refine lv_icmp_ne (tgt := 82) hx hb dX7_hasLike_60 (by decide) (fun c_19 => ?_) (fun c_19 => ?_)
          · replace hf := ob_neg c_19 hf
            exact J82 _ hf ls (lv_sub hl [0, 1, 2, 3] rfl)
          · replace hf := ob_pos c_19 hf
            refine lv_aload_n hx hb dX7_hasLike_63 rfl (lv_at hl 0 rfl) ?_
            refine va_get (D := D) (ci := 7) (v := .ref a_keptWay) (C := RX7) (T := TX7) (N := 72) hx hb hts iw_wsX7_hasLike_X7 hown hK hP 0 rfl rfl 56 (by decide) (hts (.fieldLink RX7 148 "BargeBasinModel" "keptWay" "[I") (List.mem_of_getElem? (i := 8) (by decide +kernel))) (fun _ h9 => h9) rfl dX7_hasLike_64 ?_
            refine lv_iload_n hx hb dX7_hasLike_67 rfl (lv_at hl 3 rfl) ?_
            replace hf := ob_grd hf
            obtain ⟨hi_20, hf⟩ := hf
            refine va_iald hx hb hK hP 6 0 rfl rfl hi_20 dX7_hasLike_68 ?_
            refine lv_aload_n hx hb dX7_hasLike_69 rfl (lv_at hl 0 rfl) ?_
            refine va_get (D := D) (ci := 7) (v := .ref a_asWay) (C := RX7) (T := TX7) (N := 72) hx hb hts iw_wsX7_hasLike_X7 hown hK hP 0 rfl rfl 68 (by decide) (hts (.fieldLink RX7 172 "BargeBasinModel" "asWay" "[I") (List.mem_of_getElem? (i := 9) (by decide +kernel))) (fun _ h9 => h9) rfl dX7_hasLike_70 ?_
            refine lv_iload_n hx hb dX7_hasLike_73 rfl (lv_at hl 2 rfl) ?_
            replace hf := ob_grd hf
            obtain ⟨hi_21, hf⟩ := hf
            refine va_iald hx hb hK hP 10 0 rfl rfl hi_21 dX7_hasLike_74 ?_
            refine lv_icmp_ne (tgt := 82) hx hb dX7_hasLike_75 (by decide) (fun c_22 => ?_) (fun c_22 => ?_)
            · replace hf := ob_neg c_22 hf
              exact J82 _ hf ls (lv_sub hl [0, 1, 2, 3] rfl)
            · replace hf := ob_pos c_22 hf
              refine lv_iconst (v := 1) hx hb dX7_hasLike_78 (by decide) ?_
              refine lv_goto (tgt := 83) hx hb dX7_hasLike_79 (by decide) ?_
              exact J83 _ _ hf ls (lv_sub hl [0, 1, 2, 3] rfl)
set_option maxHeartbeats 4000000 in
set_option maxRecDepth 100000 in
theorem c_f_BargeBasinModel_hasLike (l : Launch) (D : va_G) (cT : Nat → ClassId) (a_t a_lineSort a_lineMany a_numbers a_wall a_kind a_at a_size a_way a_gate a_undoBarge a_undoFrom a_undoTo a_redoBarge a_redoFrom a_redoTo a_planBarge a_planWay a_planSteps a_places a_heads a_chain a_depth a_parent a_byBarge a_byWay a_bySteps a_far a_firstEdge a_edge a_edgeBarge a_count a_who a_here a_isKept a_keptWidth a_keptHeight a_keptBarges a_keptWall a_keptKind a_keptAt a_keptSize a_keptWay a_keptGate a_out a_counts a_oldNumbers a_newWall a_asAt a_asGate a_asWay a_asWide a_asTall a_asWall : Nat) (k_status : Int32) (k_thrown : Int32) (k_has : Int32) (k_width : Int32) (k_height : Int32) (k_barges : Int32) (k_undoMany : Int32) (k_redoMany : Int32) (k_whyStep : Int32) (k_whyWhat : Int32) (k_whyWho : Int32) (k_hasPlan : Int32) (k_planMany : Int32) (k_stands : Int32) (k_edges : Int32) (k_outs : Int32) (k_seed : Int32) (k_asWidth : Int32) (k_asHeight : Int32) (k_kind : Nat → Int32) (k_size : Nat → Int32) (k_keptKind : Nat → Int32) (k_keptAt : Nat → Int32) (k_keptSize : Nat → Int32) (k_keptWay : Nat → Int32) (k_keptGate : Nat → Int32) (k_asAt : Nat → Int32) (k_asGate : Nat → Int32) (k_asWay : Nat → Int32) (v1 : Int32) (v2 : Int32) (r0 : Int32) (hf : f_BargeBasinModel_hasLike v1 v2 k_barges k_kind k_size k_keptKind k_keptAt k_keptSize k_keptWay k_keptGate k_asAt k_asGate k_asWay = some r0) : Met l yX7_hasLike wsX7_hasLike rm_BargeBasinModel_hasLike (va_Pc [.ref a_t, .int v1, .int v2] (fun U => va_P D vwCl [(a_t, .inr (7, [.int k_status, .int k_thrown, .int k_has, .int k_width, .int k_height, .ref a_lineSort, .ref a_lineMany, .ref a_numbers, .ref a_wall, .int k_barges, .ref a_kind, .ref a_at, .ref a_size, .ref a_way, .ref a_gate, .int k_undoMany, .int k_redoMany, .ref a_undoBarge, .ref a_undoFrom, .ref a_undoTo, .ref a_redoBarge, .ref a_redoFrom, .ref a_redoTo, .int k_whyStep, .int k_whyWhat, .int k_whyWho, .int k_hasPlan, .int k_planMany, .ref a_planBarge, .ref a_planWay, .ref a_planSteps, .int k_stands, .ref a_places, .ref a_heads, .ref a_chain, .ref a_depth, .ref a_parent, .ref a_byBarge, .ref a_byWay, .ref a_bySteps, .ref a_far, .ref a_firstEdge, .ref a_edge, .ref a_edgeBarge, .int k_edges, .ref a_count, .ref a_who, .ref a_here, .ref a_isKept, .ref a_keptWidth, .ref a_keptHeight, .ref a_keptBarges, .ref a_keptWall, .ref a_keptKind, .ref a_keptAt, .ref a_keptSize, .ref a_keptWay, .ref a_keptGate, .ref a_out, .int k_outs, .ref a_counts, .ref a_oldNumbers, .int k_seed, .ref a_newWall, .int k_asWidth, .int k_asHeight, .ref a_asAt, .ref a_asGate, .ref a_asWay, .ref a_asWide, .ref a_asTall, .ref a_asWall])), (a_kind, .inl (cT 0, 12, .inl k_kind)), (a_size, .inl (cT 0, 12, .inl k_size)), (a_keptKind, .inl (cT 0, 48, .inl k_keptKind)), (a_keptAt, .inl (cT 0, 48, .inl k_keptAt)), (a_keptSize, .inl (cT 0, 48, .inl k_keptSize)), (a_keptWay, .inl (cT 0, 48, .inl k_keptWay)), (a_keptGate, .inl (cT 0, 48, .inl k_keptGate)), (a_asAt, .inl (cT 0, 12, .inl k_asAt)), (a_asGate, .inl (cT 0, 12, .inl k_asGate)), (a_asWay, .inl (cT 0, 12, .inl k_asWay))] U.heap ∧ va_K D vwCl (jT cT) U ∧ jNw U)) (vp_Si (fun r => r = r0)) 0 0 (fun _ => False) := by
  refine Met.ofW (cc := cX7_hasLike) (maxL := 5) (ret := (some .boolean)) (by decide) rfl ?_
  intro p e s m args below meth c s₁ B hml hv
  obtain ⟨rfl, hP, hK, hN⟩ := hv
  have hx := B.exec
  have hb := B.bytes
  have hr := B.returns
  have hts := atoms_spec (ws := wsX7_hasLike) B.pre
  have hown : s.vm.findClass RX7 = some m.cls := findClass_of_methodNamed B.named
  have hlocks := B.notSynchronized
  have hl := lv_entry ([.ref a_t, .int v1, .int v2]) (n := 5) (Nat.le_of_ble_eq_true rfl)
  rw [lg_entry_eq]
  generalize (lg_sl ([.ref a_t, .int v1, .int v2]) ++ List.replicate (5 - (lg_sl ([.ref a_t, .int v1, .int v2])).length) Slot.unset).toArray = ls at hl ⊢
  have hl : lv_has ls 5 [(0, .ref a_t), (1, .int v1), (2, .int v2)] := hl
  unfold f_BargeBasinModel_hasLike at hf
  refine lv_bipush (v := 12) hx hb dX7_hasLike_0 (by decide) ?_
  refine lv_iload_n hx hb dX7_hasLike_2 rfl (lv_at hl 1 rfl) ?_
  refine lv_imul hx hb dX7_hasLike_3 ?_
  refine lv_topi (fun v3_1 ev3_1 => ?_)
  replace hf := ob_nm ev3_1 hf
  refine lv_istore_n (lv' := [(3, .int v3_1), (0, .ref a_t), (1, .int v1), (2, .int v2)]) hx hb dX7_hasLike_4 rfl hl (by decide) rfl (fun ls hl => ?_)
  replace hf := ob_b hf
  obtain ⟨ex_23, hq_24, hf⟩ := hf
  refine l_f_BargeBasinModel_hasLike_L5 hx hb hml hown hts hK hN hP jN _ ex_23 hq_24 ls (lv_sub hl [1, 2, 3, 0] rfl) (fun ee_25 ls hl => ?_) (fun ee_26 ls hl => ?_)
  · subst ee_25
    replace hf := ob_inl hf
    replace hf := ob_un0 hf
    refine lv_iconst (v := 1) hx hb dX7_hasLike_115 (by decide) ?_
    cases hf
    exact W.zret hx hb hr (by decide +kernel) (fun t ht hW => ⟨_, rfl, rfl, ht⟩) (fun q h => by cases h) dX7_hasLike_116
  · subst ee_26
    replace hf := ob_inr hf
    replace hf := ob_un0 hf
    refine lv_iconst (v := 0) hx hb dX7_hasLike_123 (by decide) ?_
    cases hf
    exact W.zret hx hb hr (by decide +kernel) (fun t ht hW => ⟨_, rfl, rfl, ht⟩) (fun q h => by cases h) dX7_hasLike_124
theorem iw_wsX7_isAs_X7 : ∀ w ∈ wsX70, w ∈ wsX7_isAs := fun _ h => List.mem_cons_of_mem _ (List.mem_append_right _ h)
abbrev rm_BargeBasinModel_isAs : Room := { frames := 1, cells := 0, slots := 0, locals := 24 }
set_option maxHeartbeats 4000000 in
set_option maxRecDepth 100000 in
theorem l_f_BargeBasinModel_isAs_L53 {p : Program} {l : Launch} {e : Env} {s : State} {m : MethodId} {args : Array Value} {below : List Frame} {meth : Method} {c : Code} {Q : State → Prop} {D : va_G} {cT : Nat → ClassId} {a_t a_lineSort a_lineMany a_numbers a_wall a_kind a_at a_size a_way a_gate a_undoBarge a_undoFrom a_undoTo a_redoBarge a_redoFrom a_redoTo a_planBarge a_planWay a_planSteps a_places a_heads a_chain a_depth a_parent a_byBarge a_byWay a_bySteps a_far a_firstEdge a_edge a_edgeBarge a_count a_who a_here a_isKept a_keptWidth a_keptHeight a_keptBarges a_keptWall a_keptKind a_keptAt a_keptSize a_keptWay a_keptGate a_out a_counts a_oldNumbers a_newWall a_asAt a_asGate a_asWay a_asWide a_asTall a_asWall : Nat} {k_status : Int32} {k_thrown : Int32} {k_has : Int32} {k_width : Int32} {k_height : Int32} {k_barges : Int32} {k_undoMany : Int32} {k_redoMany : Int32} {k_whyStep : Int32} {k_whyWhat : Int32} {k_whyWho : Int32} {k_hasPlan : Int32} {k_planMany : Int32} {k_stands : Int32} {k_edges : Int32} {k_outs : Int32} {k_seed : Int32} {k_asWidth : Int32} {k_asHeight : Int32} {k_kind : Nat → Int32} {k_size : Nat → Int32} {k_keptWidth : Nat → Int32} {k_keptHeight : Nat → Int32} {k_keptBarges : Nat → Int32} {k_keptWall : Nat → Int32} {k_keptKind : Nat → Int32} {k_keptAt : Nat → Int32} {k_keptSize : Nat → Int32} {k_keptWay : Nat → Int32} {k_keptGate : Nat → Int32} {k_asAt : Nat → Int32} {k_asGate : Nat → Int32} {k_asWay : Nat → Int32} {k_asWall : Nat → Int32} {v1 : Int32} {v2 : Int32} (hx : p.tables.exec = Jvm.exec) (hb : c.code = cX7_isAs) (hml : c.maxLocals = 4) (hown : s.vm.findClass RX7 = some m.cls) (hts : ∀ w ∈ wsX7_isAs, w.before args s = true) (hK : va_K D vwCl (jT cT) s) (hN : jNw s) (hP : va_P D vwCl [(a_t, .inr (7, [.int k_status, .int k_thrown, .int k_has, .int k_width, .int k_height, .ref a_lineSort, .ref a_lineMany, .ref a_numbers, .ref a_wall, .int k_barges, .ref a_kind, .ref a_at, .ref a_size, .ref a_way, .ref a_gate, .int k_undoMany, .int k_redoMany, .ref a_undoBarge, .ref a_undoFrom, .ref a_undoTo, .ref a_redoBarge, .ref a_redoFrom, .ref a_redoTo, .int k_whyStep, .int k_whyWhat, .int k_whyWho, .int k_hasPlan, .int k_planMany, .ref a_planBarge, .ref a_planWay, .ref a_planSteps, .int k_stands, .ref a_places, .ref a_heads, .ref a_chain, .ref a_depth, .ref a_parent, .ref a_byBarge, .ref a_byWay, .ref a_bySteps, .ref a_far, .ref a_firstEdge, .ref a_edge, .ref a_edgeBarge, .int k_edges, .ref a_count, .ref a_who, .ref a_here, .ref a_isKept, .ref a_keptWidth, .ref a_keptHeight, .ref a_keptBarges, .ref a_keptWall, .ref a_keptKind, .ref a_keptAt, .ref a_keptSize, .ref a_keptWay, .ref a_keptGate, .ref a_out, .int k_outs, .ref a_counts, .ref a_oldNumbers, .int k_seed, .ref a_newWall, .int k_asWidth, .int k_asHeight, .ref a_asAt, .ref a_asGate, .ref a_asWay, .ref a_asWide, .ref a_asTall, .ref a_asWall])), (a_kind, .inl (cT 0, 12, .inl k_kind)), (a_size, .inl (cT 0, 12, .inl k_size)), (a_keptWidth, .inl (cT 0, 4, .inl k_keptWidth)), (a_keptHeight, .inl (cT 0, 4, .inl k_keptHeight)), (a_keptBarges, .inl (cT 0, 4, .inl k_keptBarges)), (a_keptWall, .inl (cT 2, 256, .inl k_keptWall)), (a_keptKind, .inl (cT 0, 48, .inl k_keptKind)), (a_keptAt, .inl (cT 0, 48, .inl k_keptAt)), (a_keptSize, .inl (cT 0, 48, .inl k_keptSize)), (a_keptWay, .inl (cT 0, 48, .inl k_keptWay)), (a_keptGate, .inl (cT 0, 48, .inl k_keptGate)), (a_asAt, .inl (cT 0, 12, .inl k_asAt)), (a_asGate, .inl (cT 0, 12, .inl k_asGate)), (a_asWay, .inl (cT 0, 12, .inl k_asWay)), (a_asWall, .inl (cT 2, 64, .inl k_asWall))] s.heap) : ∀ (n : Nat) (v3 : Int32) (ex : (Unit) ⊕ (Unit)), f_BargeBasinModel_isAs_L53 v1 v2 k_asWidth k_keptWall k_asWall n v3 = some ex → ∀ (ls : Array Slot), lv_has ls 4 [(0, .ref a_t), (1, .int v1), (2, .int v2), (3, .int v3)] → (ex = .inl (()) → ∀ (ls : Array Slot), lv_has ls 4 [] → W p l e (headSpec wsX7_isAs rm_BargeBasinModel_isAs).room s m args below meth c s.heap [] 0 0 Q (F0 m 91 ls [])) → (ex = .inr (()) → ∀ (ls : Array Slot), lv_has ls 4 [(0, .ref a_t), (1, .int v1), (2, .int v2)] → W p l e (headSpec wsX7_isAs rm_BargeBasinModel_isAs).room s m args below meth c s.heap [] 0 0 Q (F0 m 99 ls [])) → W p l e (headSpec wsX7_isAs rm_BargeBasinModel_isAs).room s m args below meth c s.heap [] 0 0 Q (F0 m 53 ls []) := by
  intro n
  induction n with
  | zero => intro v3 ex hf; exact (ob_none hf).elim
  | succ n ih =>
    intro v3 ex hf ls hl K0 K1
    rw [f_BargeBasinModel_isAs_L53] at hf
    refine lv_iload_n hx hb dX7_isAs_53 rfl (lv_at hl 3 rfl) ?_
    refine lv_aload_n hx hb dX7_isAs_54 rfl (lv_at hl 0 rfl) ?_
    refine va_get (D := D) (ci := 7) (v := .int k_asWidth) (C := RX7) (T := TX7) (N := 72) hx hb hts iw_wsX7_isAs_X7 hown hK hP 0 rfl rfl 64 (by decide) (hts (.fieldLink RX7 426 "BargeBasinModel" "asWidth" "I") (List.mem_of_getElem? (i := 1) (by decide +kernel))) (fun _ h9 => h9) rfl dX7_isAs_55 ?_
    refine lv_icmp_ge (tgt := 99) hx hb dX7_isAs_58 (by decide) (fun c_8 => ?_) (fun c_8 => ?_)
    · replace hf := ob_pos c_8 hf
      cases hf
      exact K1 rfl ls (lv_sub hl [0, 1, 2] rfl)
    · replace hf := ob_neg c_8 hf
      refine lv_aload_n hx hb dX7_isAs_61 rfl (lv_at hl 0 rfl) ?_
      refine va_get (D := D) (ci := 7) (v := .ref a_asWall) (C := RX7) (T := TX7) (N := 72) hx hb hts iw_wsX7_isAs_X7 hown hK hP 0 rfl rfl 71 (by decide) (hts (.fieldLink RX7 181 "BargeBasinModel" "asWall" "[Z") (List.mem_of_getElem? (i := 7) (by decide +kernel))) (fun _ h9 => h9) rfl dX7_isAs_62 ?_
      refine lv_iload_n hx hb dX7_isAs_65 rfl (lv_at hl 3 rfl) ?_
      refine lv_bipush (v := 8) hx hb dX7_isAs_66 (by decide) ?_
      refine lv_iload_n hx hb dX7_isAs_68 rfl (lv_at hl 2 rfl) ?_
      refine lv_imul hx hb dX7_isAs_69 ?_
      refine lv_iadd hx hb dX7_isAs_70 ?_
      replace hf := ob_grd hf
      obtain ⟨hi_9, hf⟩ := hf
      refine va_zald hx hb hK hP 15 2 rfl rfl hi_9 dX7_isAs_71 ?_
      refine lv_aload_n hx hb dX7_isAs_72 rfl (lv_at hl 0 rfl) ?_
      refine va_get (D := D) (ci := 7) (v := .ref a_keptWall) (C := RX7) (T := TX7) (N := 72) hx hb hts iw_wsX7_isAs_X7 hown hK hP 0 rfl rfl 52 (by decide) (hts (.fieldLink RX7 136 "BargeBasinModel" "keptWall" "[Z") (List.mem_of_getElem? (i := 8) (by decide +kernel))) (fun _ h9 => h9) rfl dX7_isAs_73 ?_
      refine lv_bipush (v := 64) hx hb dX7_isAs_76 (by decide) ?_
      refine lv_iload_n hx hb dX7_isAs_78 rfl (lv_at hl 1 rfl) ?_
      refine lv_imul hx hb dX7_isAs_79 ?_
      refine lv_iload_n hx hb dX7_isAs_80 rfl (lv_at hl 3 rfl) ?_
      refine lv_iadd hx hb dX7_isAs_81 ?_
      refine lv_bipush (v := 8) hx hb dX7_isAs_82 (by decide) ?_
      refine lv_iload_n hx hb dX7_isAs_84 rfl (lv_at hl 2 rfl) ?_
      refine lv_imul hx hb dX7_isAs_85 ?_
      refine lv_iadd hx hb dX7_isAs_86 ?_
      replace hf := ob_grd hf
      obtain ⟨hi_10, hf⟩ := hf
      refine va_zald hx hb hK hP 6 2 rfl rfl hi_10 dX7_isAs_87 ?_
      refine lv_icmp_eq (tgt := 93) hx hb dX7_isAs_88 (by decide) (fun c_11 => ?_) (fun c_11 => ?_)
      · replace hf := ob_pos c_11 hf
        obtain ⟨v3_12, ev3_12⟩ : ∃ y : Int32, y = v3 + 1 := ⟨_, rfl⟩
        replace hf := ob_nm ev3_12 hf
        refine lv_iinc (v := v3_12) (lv' := [(3, .int v3_12), (0, .ref a_t), (1, .int v1), (2, .int v2)]) hx hb dX7_isAs_93 hl (k := 3) rfl (by rw [ev3_12]; rfl) (by decide) rfl (fun ls hl => ?_)
        refine lv_goto (tgt := 53) hx hb dX7_isAs_96 (by decide) ?_
        exact ih _ ex hf ls (lv_sub hl [1, 2, 3, 0] rfl) K0 K1
      · replace hf := ob_neg c_11 hf
        cases hf
        exact K0 rfl ls (lv_sub hl [] rfl)
set_option maxHeartbeats 4000000 in
set_option maxRecDepth 100000 in
theorem l_f_BargeBasinModel_isAs_L43 {p : Program} {l : Launch} {e : Env} {s : State} {m : MethodId} {args : Array Value} {below : List Frame} {meth : Method} {c : Code} {Q : State → Prop} {D : va_G} {cT : Nat → ClassId} {a_t a_lineSort a_lineMany a_numbers a_wall a_kind a_at a_size a_way a_gate a_undoBarge a_undoFrom a_undoTo a_redoBarge a_redoFrom a_redoTo a_planBarge a_planWay a_planSteps a_places a_heads a_chain a_depth a_parent a_byBarge a_byWay a_bySteps a_far a_firstEdge a_edge a_edgeBarge a_count a_who a_here a_isKept a_keptWidth a_keptHeight a_keptBarges a_keptWall a_keptKind a_keptAt a_keptSize a_keptWay a_keptGate a_out a_counts a_oldNumbers a_newWall a_asAt a_asGate a_asWay a_asWide a_asTall a_asWall : Nat} {k_status : Int32} {k_thrown : Int32} {k_has : Int32} {k_width : Int32} {k_height : Int32} {k_barges : Int32} {k_undoMany : Int32} {k_redoMany : Int32} {k_whyStep : Int32} {k_whyWhat : Int32} {k_whyWho : Int32} {k_hasPlan : Int32} {k_planMany : Int32} {k_stands : Int32} {k_edges : Int32} {k_outs : Int32} {k_seed : Int32} {k_asWidth : Int32} {k_asHeight : Int32} {k_kind : Nat → Int32} {k_size : Nat → Int32} {k_keptWidth : Nat → Int32} {k_keptHeight : Nat → Int32} {k_keptBarges : Nat → Int32} {k_keptWall : Nat → Int32} {k_keptKind : Nat → Int32} {k_keptAt : Nat → Int32} {k_keptSize : Nat → Int32} {k_keptWay : Nat → Int32} {k_keptGate : Nat → Int32} {k_asAt : Nat → Int32} {k_asGate : Nat → Int32} {k_asWay : Nat → Int32} {k_asWall : Nat → Int32} {v1 : Int32} (hx : p.tables.exec = Jvm.exec) (hb : c.code = cX7_isAs) (hml : c.maxLocals = 4) (hown : s.vm.findClass RX7 = some m.cls) (hts : ∀ w ∈ wsX7_isAs, w.before args s = true) (hK : va_K D vwCl (jT cT) s) (hN : jNw s) (hP : va_P D vwCl [(a_t, .inr (7, [.int k_status, .int k_thrown, .int k_has, .int k_width, .int k_height, .ref a_lineSort, .ref a_lineMany, .ref a_numbers, .ref a_wall, .int k_barges, .ref a_kind, .ref a_at, .ref a_size, .ref a_way, .ref a_gate, .int k_undoMany, .int k_redoMany, .ref a_undoBarge, .ref a_undoFrom, .ref a_undoTo, .ref a_redoBarge, .ref a_redoFrom, .ref a_redoTo, .int k_whyStep, .int k_whyWhat, .int k_whyWho, .int k_hasPlan, .int k_planMany, .ref a_planBarge, .ref a_planWay, .ref a_planSteps, .int k_stands, .ref a_places, .ref a_heads, .ref a_chain, .ref a_depth, .ref a_parent, .ref a_byBarge, .ref a_byWay, .ref a_bySteps, .ref a_far, .ref a_firstEdge, .ref a_edge, .ref a_edgeBarge, .int k_edges, .ref a_count, .ref a_who, .ref a_here, .ref a_isKept, .ref a_keptWidth, .ref a_keptHeight, .ref a_keptBarges, .ref a_keptWall, .ref a_keptKind, .ref a_keptAt, .ref a_keptSize, .ref a_keptWay, .ref a_keptGate, .ref a_out, .int k_outs, .ref a_counts, .ref a_oldNumbers, .int k_seed, .ref a_newWall, .int k_asWidth, .int k_asHeight, .ref a_asAt, .ref a_asGate, .ref a_asWay, .ref a_asWide, .ref a_asTall, .ref a_asWall])), (a_kind, .inl (cT 0, 12, .inl k_kind)), (a_size, .inl (cT 0, 12, .inl k_size)), (a_keptWidth, .inl (cT 0, 4, .inl k_keptWidth)), (a_keptHeight, .inl (cT 0, 4, .inl k_keptHeight)), (a_keptBarges, .inl (cT 0, 4, .inl k_keptBarges)), (a_keptWall, .inl (cT 2, 256, .inl k_keptWall)), (a_keptKind, .inl (cT 0, 48, .inl k_keptKind)), (a_keptAt, .inl (cT 0, 48, .inl k_keptAt)), (a_keptSize, .inl (cT 0, 48, .inl k_keptSize)), (a_keptWay, .inl (cT 0, 48, .inl k_keptWay)), (a_keptGate, .inl (cT 0, 48, .inl k_keptGate)), (a_asAt, .inl (cT 0, 12, .inl k_asAt)), (a_asGate, .inl (cT 0, 12, .inl k_asGate)), (a_asWay, .inl (cT 0, 12, .inl k_asWay)), (a_asWall, .inl (cT 2, 64, .inl k_asWall))] s.heap) : ∀ (n : Nat) (v2 : Int32) (ex : (Unit) ⊕ (Unit)), f_BargeBasinModel_isAs_L43 v1 k_asWidth k_asHeight k_keptWall k_asWall n v2 = some ex → ∀ (ls : Array Slot), lv_has ls 4 [(0, .ref a_t), (1, .int v1), (2, .int v2)] → (ex = .inl (()) → ∀ (ls : Array Slot), lv_has ls 4 [] → W p l e (headSpec wsX7_isAs rm_BargeBasinModel_isAs).room s m args below meth c s.heap [] 0 0 Q (F0 m 91 ls [])) → (ex = .inr (()) → ∀ (ls : Array Slot), lv_has ls 4 [(0, .ref a_t), (1, .int v1)] → W p l e (headSpec wsX7_isAs rm_BargeBasinModel_isAs).room s m args below meth c s.heap [] 0 0 Q (F0 m 105 ls [])) → W p l e (headSpec wsX7_isAs rm_BargeBasinModel_isAs).room s m args below meth c s.heap [] 0 0 Q (F0 m 43 ls []) := by
  intro n
  induction n with
  | zero => intro v2 ex hf; exact (ob_none hf).elim
  | succ n ih =>
    intro v2 ex hf ls hl K0 K1
    rw [f_BargeBasinModel_isAs_L43] at hf
    refine lv_iload_n hx hb dX7_isAs_43 rfl (lv_at hl 2 rfl) ?_
    refine lv_aload_n hx hb dX7_isAs_44 rfl (lv_at hl 0 rfl) ?_
    refine va_get (D := D) (ci := 7) (v := .int k_asHeight) (C := RX7) (T := TX7) (N := 72) hx hb hts iw_wsX7_isAs_X7 hown hK hP 0 rfl rfl 65 (by decide) (hts (.fieldLink RX7 429 "BargeBasinModel" "asHeight" "I") (List.mem_of_getElem? (i := 3) (by decide +kernel))) (fun _ h9 => h9) rfl dX7_isAs_45 ?_
    refine lv_icmp_ge (tgt := 105) hx hb dX7_isAs_48 (by decide) (fun c_7 => ?_) (fun c_7 => ?_)
    · replace hf := ob_pos c_7 hf
      cases hf
      exact K1 rfl ls (lv_sub hl [0, 1] rfl)
    · replace hf := ob_neg c_7 hf
      refine lv_iconst (v := 0) hx hb dX7_isAs_51 (by decide) ?_
      refine lv_istore_n (lv' := [(3, .int ((0 : Int32))), (0, .ref a_t), (1, .int v1), (2, .int v2)]) hx hb dX7_isAs_52 rfl hl (by decide) rfl (fun ls hl => ?_)
      replace hf := ob_b hf
      obtain ⟨ex_13, hq_14, hf⟩ := hf
      refine l_f_BargeBasinModel_isAs_L53 hx hb hml hown hts hK hN hP jN _ ex_13 hq_14 ls (lv_sub hl [1, 2, 3, 0] rfl) (fun ee_15 ls hl => ?_) (fun ee_17 ls hl => ?_)
      · subst ee_15
        replace hf := ob_inl hf
        replace hf := ob_un0 hf
        cases hf
        exact K0 rfl ls (lv_sub hl [] rfl)
      · subst ee_17
        replace hf := ob_inr hf
        replace hf := ob_un0 hf
        obtain ⟨v2_16, ev2_16⟩ : ∃ y : Int32, y = v2 + 1 := ⟨_, rfl⟩
        replace hf := ob_nm ev2_16 hf
        refine lv_iinc (v := v2_16) (lv' := [(2, .int v2_16), (0, .ref a_t), (1, .int v1)]) hx hb dX7_isAs_99 hl (k := 2) rfl (by rw [ev2_16]; rfl) (by decide) rfl (fun ls hl => ?_)
        refine lv_goto (tgt := 43) hx hb dX7_isAs_102 (by decide) ?_
        exact ih _ ex hf ls (lv_sub hl [1, 2, 0] rfl) K0 K1
set_option maxHeartbeats 4000000 in
set_option maxRecDepth 100000 in
theorem l_f_BargeBasinModel_isAs_L107 {p : Program} {l : Launch} {e : Env} {s : State} {m : MethodId} {args : Array Value} {below : List Frame} {meth : Method} {c : Code} {Q : State → Prop} {D : va_G} {cT : Nat → ClassId} {a_t a_lineSort a_lineMany a_numbers a_wall a_kind a_at a_size a_way a_gate a_undoBarge a_undoFrom a_undoTo a_redoBarge a_redoFrom a_redoTo a_planBarge a_planWay a_planSteps a_places a_heads a_chain a_depth a_parent a_byBarge a_byWay a_bySteps a_far a_firstEdge a_edge a_edgeBarge a_count a_who a_here a_isKept a_keptWidth a_keptHeight a_keptBarges a_keptWall a_keptKind a_keptAt a_keptSize a_keptWay a_keptGate a_out a_counts a_oldNumbers a_newWall a_asAt a_asGate a_asWay a_asWide a_asTall a_asWall : Nat} {k_status : Int32} {k_thrown : Int32} {k_has : Int32} {k_width : Int32} {k_height : Int32} {k_barges : Int32} {k_undoMany : Int32} {k_redoMany : Int32} {k_whyStep : Int32} {k_whyWhat : Int32} {k_whyWho : Int32} {k_hasPlan : Int32} {k_planMany : Int32} {k_stands : Int32} {k_edges : Int32} {k_outs : Int32} {k_seed : Int32} {k_asWidth : Int32} {k_asHeight : Int32} {k_kind : Nat → Int32} {k_size : Nat → Int32} {k_keptWidth : Nat → Int32} {k_keptHeight : Nat → Int32} {k_keptBarges : Nat → Int32} {k_keptWall : Nat → Int32} {k_keptKind : Nat → Int32} {k_keptAt : Nat → Int32} {k_keptSize : Nat → Int32} {k_keptWay : Nat → Int32} {k_keptGate : Nat → Int32} {k_asAt : Nat → Int32} {k_asGate : Nat → Int32} {k_asWay : Nat → Int32} {k_asWall : Nat → Int32} {v1 : Int32} (hx : p.tables.exec = Jvm.exec) (hb : c.code = cX7_isAs) (hml : c.maxLocals = 4) (hown : s.vm.findClass RX7 = some m.cls) (hts : ∀ w ∈ wsX7_isAs, w.before args s = true) (hK : va_K D vwCl (jT cT) s) (hN : jNw s) (hP : va_P D vwCl [(a_t, .inr (7, [.int k_status, .int k_thrown, .int k_has, .int k_width, .int k_height, .ref a_lineSort, .ref a_lineMany, .ref a_numbers, .ref a_wall, .int k_barges, .ref a_kind, .ref a_at, .ref a_size, .ref a_way, .ref a_gate, .int k_undoMany, .int k_redoMany, .ref a_undoBarge, .ref a_undoFrom, .ref a_undoTo, .ref a_redoBarge, .ref a_redoFrom, .ref a_redoTo, .int k_whyStep, .int k_whyWhat, .int k_whyWho, .int k_hasPlan, .int k_planMany, .ref a_planBarge, .ref a_planWay, .ref a_planSteps, .int k_stands, .ref a_places, .ref a_heads, .ref a_chain, .ref a_depth, .ref a_parent, .ref a_byBarge, .ref a_byWay, .ref a_bySteps, .ref a_far, .ref a_firstEdge, .ref a_edge, .ref a_edgeBarge, .int k_edges, .ref a_count, .ref a_who, .ref a_here, .ref a_isKept, .ref a_keptWidth, .ref a_keptHeight, .ref a_keptBarges, .ref a_keptWall, .ref a_keptKind, .ref a_keptAt, .ref a_keptSize, .ref a_keptWay, .ref a_keptGate, .ref a_out, .int k_outs, .ref a_counts, .ref a_oldNumbers, .int k_seed, .ref a_newWall, .int k_asWidth, .int k_asHeight, .ref a_asAt, .ref a_asGate, .ref a_asWay, .ref a_asWide, .ref a_asTall, .ref a_asWall])), (a_kind, .inl (cT 0, 12, .inl k_kind)), (a_size, .inl (cT 0, 12, .inl k_size)), (a_keptWidth, .inl (cT 0, 4, .inl k_keptWidth)), (a_keptHeight, .inl (cT 0, 4, .inl k_keptHeight)), (a_keptBarges, .inl (cT 0, 4, .inl k_keptBarges)), (a_keptWall, .inl (cT 2, 256, .inl k_keptWall)), (a_keptKind, .inl (cT 0, 48, .inl k_keptKind)), (a_keptAt, .inl (cT 0, 48, .inl k_keptAt)), (a_keptSize, .inl (cT 0, 48, .inl k_keptSize)), (a_keptWay, .inl (cT 0, 48, .inl k_keptWay)), (a_keptGate, .inl (cT 0, 48, .inl k_keptGate)), (a_asAt, .inl (cT 0, 12, .inl k_asAt)), (a_asGate, .inl (cT 0, 12, .inl k_asGate)), (a_asWay, .inl (cT 0, 12, .inl k_asWay)), (a_asWall, .inl (cT 2, 64, .inl k_asWall))] s.heap) : ∀ (n : Nat) (v2 : Int32) (ex : (Unit) ⊕ (Unit)), f_BargeBasinModel_isAs_L107 v1 k_barges k_kind k_size k_keptKind k_keptAt k_keptSize k_keptWay k_keptGate k_asAt k_asGate k_asWay n v2 = some ex → ∀ (ls : Array Slot), lv_has ls 4 [(0, .ref a_t), (1, .int v1), (2, .int v2)] → (ex = .inl (()) → ∀ (ls : Array Slot), lv_has ls 4 [] → W p l e (headSpec wsX7_isAs rm_BargeBasinModel_isAs).room s m args below meth c s.heap [] 0 0 Q (F0 m 124 ls [])) → (ex = .inr (()) → ∀ (ls : Array Slot), lv_has ls 4 [] → W p l e (headSpec wsX7_isAs rm_BargeBasinModel_isAs).room s m args below meth c s.heap [] 0 0 Q (F0 m 132 ls [])) → W p l e (headSpec wsX7_isAs rm_BargeBasinModel_isAs).room s m args below meth c s.heap [] 0 0 Q (F0 m 107 ls []) := by
  intro n
  induction n with
  | zero => intro v2 ex hf; exact (ob_none hf).elim
  | succ n ih =>
    intro v2 ex hf ls hl K0 K1
    rw [f_BargeBasinModel_isAs_L107] at hf
    refine lv_iload_n hx hb dX7_isAs_107 rfl (lv_at hl 2 rfl) ?_
    refine lv_aload_n hx hb dX7_isAs_108 rfl (lv_at hl 0 rfl) ?_
    refine va_get (D := D) (ci := 7) (v := .int k_barges) (C := RX7) (T := TX7) (N := 72) hx hb hts iw_wsX7_isAs_X7 hown hK hP 0 rfl rfl 9 (by decide) (hts (.fieldLink RX7 216 "BargeBasinModel" "barges" "I") (List.mem_of_getElem? (i := 5) (by decide +kernel))) (fun _ h9 => h9) rfl dX7_isAs_109 ?_
    refine lv_icmp_ge (tgt := 132) hx hb dX7_isAs_112 (by decide) (fun c_21 => ?_) (fun c_21 => ?_)
    · replace hf := ob_pos c_21 hf
      cases hf
      exact K1 rfl ls (lv_sub hl [] rfl)
    · replace hf := ob_neg c_21 hf
      refine lv_aload_n hx hb dX7_isAs_115 rfl (lv_at hl 0 rfl) ?_
      refine lv_iload_n hx hb dX7_isAs_116 rfl (lv_at hl 1 rfl) ?_
      refine lv_iload_n hx hb dX7_isAs_117 rfl (lv_at hl 2 rfl) ?_
      replace hf := ob_b hf
      obtain ⟨zr_22, hc_23, hf⟩ := hf
      refine vp_callSi (W.runV (As := [.int v1, .int v2]) (rest := []) ⟨hx, hb, hml, hown, hts⟩ (c_f_BargeBasinModel_hasLike l D cT a_t a_lineSort a_lineMany a_numbers a_wall a_kind a_at a_size a_way a_gate a_undoBarge a_undoFrom a_undoTo a_redoBarge a_redoFrom a_redoTo a_planBarge a_planWay a_planSteps a_places a_heads a_chain a_depth a_parent a_byBarge a_byWay a_bySteps a_far a_firstEdge a_edge a_edgeBarge a_count a_who a_here a_isKept a_keptWidth a_keptHeight a_keptBarges a_keptWall a_keptKind a_keptAt a_keptSize a_keptWay a_keptGate a_out a_counts a_oldNumbers a_newWall a_asAt a_asGate a_asWay a_asWide a_asTall a_asWall k_status k_thrown k_has k_width k_height k_barges k_undoMany k_redoMany k_whyStep k_whyWhat k_whyWho k_hasPlan k_planMany k_stands k_edges k_outs k_seed k_asWidth k_asHeight k_kind k_size k_keptKind k_keptAt k_keptSize k_keptWay k_keptGate k_asAt k_asGate k_asWay v1 v2 _ hc_23) (cwV 2 hts gX7_isAs_X7_hasLike rfl rfl rfl (by decide +kernel) ⟨Nat.le_of_ble_eq_true rfl, Nat.le_of_ble_eq_true rfl⟩) ⟨fun a U g mk q => by obtain ⟨q0, qP, qK, qN⟩ := q; exact ⟨q0, qP, va_K.moved (u := U) (U := U.calling g mk a) (Vm.Alike.refl U.vm) qK, jNw_same (u := U) (U := U.calling g mk a) rfl qN⟩, va_recv hK hP (ci := 7) (q0 := 0) rfl rfl, fun U hU hW => ⟨rfl, by rw [hU]; exact hP.sub [0, 1, 2, 7, 8, 9, 10, 11, 12, 13, 14] rfl, va_K.moved hW.alike hK, jNw_warm hW hN⟩⟩ rfl rfl hl.1 rfl (lv_room (Nat.le_of_ble_eq_true rfl)) dX7_isAs_118 ⟨Nat.le_of_ble_eq_true rfl, Nat.le_of_ble_eq_true rfl⟩) (fun r_22 er_24 => ?_)
      subst er_24
      refine lv_if_ne (tgt := 126) hx hb dX7_isAs_121 (by decide) (fun c_25 => ?_) (fun c_25 => ?_)
      · replace hf := ob_neg c_25 hf
        obtain ⟨v2_26, ev2_26⟩ : ∃ y : Int32, y = v2 + 1 := ⟨_, rfl⟩
        replace hf := ob_nm ev2_26 hf
        refine lv_iinc (v := v2_26) (lv' := [(2, .int v2_26), (0, .ref a_t), (1, .int v1)]) hx hb dX7_isAs_126 hl (k := 2) rfl (by rw [ev2_26]; rfl) (by decide) rfl (fun ls hl => ?_)
        refine lv_goto (tgt := 107) hx hb dX7_isAs_129 (by decide) ?_
        exact ih _ ex hf ls (lv_sub hl [1, 2, 0] rfl) K0 K1
      · replace hf := ob_pos c_25 hf
        cases hf
        exact K0 rfl ls (lv_sub hl [] rfl)
set_option maxHeartbeats 4000000 in
set_option maxRecDepth 100000 in
theorem c_f_BargeBasinModel_isAs (l : Launch) (D : va_G) (cT : Nat → ClassId) (a_t a_lineSort a_lineMany a_numbers a_wall a_kind a_at a_size a_way a_gate a_undoBarge a_undoFrom a_undoTo a_redoBarge a_redoFrom a_redoTo a_planBarge a_planWay a_planSteps a_places a_heads a_chain a_depth a_parent a_byBarge a_byWay a_bySteps a_far a_firstEdge a_edge a_edgeBarge a_count a_who a_here a_isKept a_keptWidth a_keptHeight a_keptBarges a_keptWall a_keptKind a_keptAt a_keptSize a_keptWay a_keptGate a_out a_counts a_oldNumbers a_newWall a_asAt a_asGate a_asWay a_asWide a_asTall a_asWall : Nat) (k_status : Int32) (k_thrown : Int32) (k_has : Int32) (k_width : Int32) (k_height : Int32) (k_barges : Int32) (k_undoMany : Int32) (k_redoMany : Int32) (k_whyStep : Int32) (k_whyWhat : Int32) (k_whyWho : Int32) (k_hasPlan : Int32) (k_planMany : Int32) (k_stands : Int32) (k_edges : Int32) (k_outs : Int32) (k_seed : Int32) (k_asWidth : Int32) (k_asHeight : Int32) (k_kind : Nat → Int32) (k_size : Nat → Int32) (k_keptWidth : Nat → Int32) (k_keptHeight : Nat → Int32) (k_keptBarges : Nat → Int32) (k_keptWall : Nat → Int32) (k_keptKind : Nat → Int32) (k_keptAt : Nat → Int32) (k_keptSize : Nat → Int32) (k_keptWay : Nat → Int32) (k_keptGate : Nat → Int32) (k_asAt : Nat → Int32) (k_asGate : Nat → Int32) (k_asWay : Nat → Int32) (k_asWall : Nat → Int32) (v1 : Int32) (r0 : Int32) (hf : f_BargeBasinModel_isAs v1 k_barges k_asWidth k_asHeight k_kind k_size k_keptWidth k_keptHeight k_keptBarges k_keptWall k_keptKind k_keptAt k_keptSize k_keptWay k_keptGate k_asAt k_asGate k_asWay k_asWall = some r0) : Met l yX7_isAs wsX7_isAs rm_BargeBasinModel_isAs (va_Pc [.ref a_t, .int v1] (fun U => va_P D vwCl [(a_t, .inr (7, [.int k_status, .int k_thrown, .int k_has, .int k_width, .int k_height, .ref a_lineSort, .ref a_lineMany, .ref a_numbers, .ref a_wall, .int k_barges, .ref a_kind, .ref a_at, .ref a_size, .ref a_way, .ref a_gate, .int k_undoMany, .int k_redoMany, .ref a_undoBarge, .ref a_undoFrom, .ref a_undoTo, .ref a_redoBarge, .ref a_redoFrom, .ref a_redoTo, .int k_whyStep, .int k_whyWhat, .int k_whyWho, .int k_hasPlan, .int k_planMany, .ref a_planBarge, .ref a_planWay, .ref a_planSteps, .int k_stands, .ref a_places, .ref a_heads, .ref a_chain, .ref a_depth, .ref a_parent, .ref a_byBarge, .ref a_byWay, .ref a_bySteps, .ref a_far, .ref a_firstEdge, .ref a_edge, .ref a_edgeBarge, .int k_edges, .ref a_count, .ref a_who, .ref a_here, .ref a_isKept, .ref a_keptWidth, .ref a_keptHeight, .ref a_keptBarges, .ref a_keptWall, .ref a_keptKind, .ref a_keptAt, .ref a_keptSize, .ref a_keptWay, .ref a_keptGate, .ref a_out, .int k_outs, .ref a_counts, .ref a_oldNumbers, .int k_seed, .ref a_newWall, .int k_asWidth, .int k_asHeight, .ref a_asAt, .ref a_asGate, .ref a_asWay, .ref a_asWide, .ref a_asTall, .ref a_asWall])), (a_kind, .inl (cT 0, 12, .inl k_kind)), (a_size, .inl (cT 0, 12, .inl k_size)), (a_keptWidth, .inl (cT 0, 4, .inl k_keptWidth)), (a_keptHeight, .inl (cT 0, 4, .inl k_keptHeight)), (a_keptBarges, .inl (cT 0, 4, .inl k_keptBarges)), (a_keptWall, .inl (cT 2, 256, .inl k_keptWall)), (a_keptKind, .inl (cT 0, 48, .inl k_keptKind)), (a_keptAt, .inl (cT 0, 48, .inl k_keptAt)), (a_keptSize, .inl (cT 0, 48, .inl k_keptSize)), (a_keptWay, .inl (cT 0, 48, .inl k_keptWay)), (a_keptGate, .inl (cT 0, 48, .inl k_keptGate)), (a_asAt, .inl (cT 0, 12, .inl k_asAt)), (a_asGate, .inl (cT 0, 12, .inl k_asGate)), (a_asWay, .inl (cT 0, 12, .inl k_asWay)), (a_asWall, .inl (cT 2, 64, .inl k_asWall))] U.heap ∧ va_K D vwCl (jT cT) U ∧ jNw U)) (vp_Si (fun r => r = r0)) 0 0 (fun _ => False) := by
  refine Met.ofW (cc := cX7_isAs) (maxL := 4) (ret := (some .boolean)) (by decide) rfl ?_
  intro p e s m args below meth c s₁ B hml hv
  obtain ⟨rfl, hP, hK, hN⟩ := hv
  have hx := B.exec
  have hb := B.bytes
  have hr := B.returns
  have hts := atoms_spec (ws := wsX7_isAs) B.pre
  have hown : s.vm.findClass RX7 = some m.cls := findClass_of_methodNamed B.named
  have hlocks := B.notSynchronized
  have hl := lv_entry ([.ref a_t, .int v1]) (n := 4) (Nat.le_of_ble_eq_true rfl)
  rw [lg_entry_eq]
  generalize (lg_sl ([.ref a_t, .int v1]) ++ List.replicate (4 - (lg_sl ([.ref a_t, .int v1])).length) Slot.unset).toArray = ls at hl ⊢
  have hl : lv_has ls 4 [(0, .ref a_t), (1, .int v1)] := hl
  unfold f_BargeBasinModel_isAs at hf
  refine lv_aload_n hx hb dX7_isAs_0 rfl (lv_at hl 0 rfl) ?_
  refine va_get (D := D) (ci := 7) (v := .int k_asWidth) (C := RX7) (T := TX7) (N := 72) hx hb hts iw_wsX7_isAs_X7 hown hK hP 0 rfl rfl 64 (by decide) (hts (.fieldLink RX7 426 "BargeBasinModel" "asWidth" "I") (List.mem_of_getElem? (i := 1) (by decide +kernel))) (fun _ h9 => h9) rfl dX7_isAs_1 ?_
  refine lv_aload_n hx hb dX7_isAs_4 rfl (lv_at hl 0 rfl) ?_
  refine va_get (D := D) (ci := 7) (v := .ref a_keptWidth) (C := RX7) (T := TX7) (N := 72) hx hb hts iw_wsX7_isAs_X7 hown hK hP 0 rfl rfl 49 (by decide) (hts (.fieldLink RX7 127 "BargeBasinModel" "keptWidth" "[I") (List.mem_of_getElem? (i := 2) (by decide +kernel))) (fun _ h9 => h9) rfl dX7_isAs_5 ?_
  refine lv_iload_n hx hb dX7_isAs_8 rfl (lv_at hl 1 rfl) ?_
  replace hf := ob_grd hf
  obtain ⟨hi_1, hf⟩ := hf
  refine va_iald hx hb hK hP 3 0 rfl rfl hi_1 dX7_isAs_9 ?_
  refine lv_icmp_ne (tgt := 39) hx hb dX7_isAs_10 (by decide) (fun c_2 => ?_) (fun c_2 => ?_)
  · replace hf := ob_neg c_2 hf
    refine lv_iconst (v := 0) hx hb dX7_isAs_39 (by decide) ?_
    cases hf
    exact W.zret hx hb hr (by decide +kernel) (fun t ht hW => ⟨_, rfl, rfl, ht⟩) (fun q h => by cases h) dX7_isAs_40
  · replace hf := ob_pos c_2 hf
    refine lv_aload_n hx hb dX7_isAs_13 rfl (lv_at hl 0 rfl) ?_
    refine va_get (D := D) (ci := 7) (v := .int k_asHeight) (C := RX7) (T := TX7) (N := 72) hx hb hts iw_wsX7_isAs_X7 hown hK hP 0 rfl rfl 65 (by decide) (hts (.fieldLink RX7 429 "BargeBasinModel" "asHeight" "I") (List.mem_of_getElem? (i := 3) (by decide +kernel))) (fun _ h9 => h9) rfl dX7_isAs_14 ?_
    refine lv_aload_n hx hb dX7_isAs_17 rfl (lv_at hl 0 rfl) ?_
    refine va_get (D := D) (ci := 7) (v := .ref a_keptHeight) (C := RX7) (T := TX7) (N := 72) hx hb hts iw_wsX7_isAs_X7 hown hK hP 0 rfl rfl 50 (by decide) (hts (.fieldLink RX7 130 "BargeBasinModel" "keptHeight" "[I") (List.mem_of_getElem? (i := 4) (by decide +kernel))) (fun _ h9 => h9) rfl dX7_isAs_18 ?_
    refine lv_iload_n hx hb dX7_isAs_21 rfl (lv_at hl 1 rfl) ?_
    replace hf := ob_grd hf
    obtain ⟨hi_3, hf⟩ := hf
    refine va_iald hx hb hK hP 4 0 rfl rfl hi_3 dX7_isAs_22 ?_
    refine lv_icmp_ne (tgt := 39) hx hb dX7_isAs_23 (by decide) (fun c_4 => ?_) (fun c_4 => ?_)
    · replace hf := ob_neg c_4 hf
      refine lv_iconst (v := 0) hx hb dX7_isAs_39 (by decide) ?_
      cases hf
      exact W.zret hx hb hr (by decide +kernel) (fun t ht hW => ⟨_, rfl, rfl, ht⟩) (fun q h => by cases h) dX7_isAs_40
    · replace hf := ob_pos c_4 hf
      refine lv_aload_n hx hb dX7_isAs_26 rfl (lv_at hl 0 rfl) ?_
      refine va_get (D := D) (ci := 7) (v := .int k_barges) (C := RX7) (T := TX7) (N := 72) hx hb hts iw_wsX7_isAs_X7 hown hK hP 0 rfl rfl 9 (by decide) (hts (.fieldLink RX7 216 "BargeBasinModel" "barges" "I") (List.mem_of_getElem? (i := 5) (by decide +kernel))) (fun _ h9 => h9) rfl dX7_isAs_27 ?_
      refine lv_aload_n hx hb dX7_isAs_30 rfl (lv_at hl 0 rfl) ?_
      refine va_get (D := D) (ci := 7) (v := .ref a_keptBarges) (C := RX7) (T := TX7) (N := 72) hx hb hts iw_wsX7_isAs_X7 hown hK hP 0 rfl rfl 51 (by decide) (hts (.fieldLink RX7 133 "BargeBasinModel" "keptBarges" "[I") (List.mem_of_getElem? (i := 6) (by decide +kernel))) (fun _ h9 => h9) rfl dX7_isAs_31 ?_
      refine lv_iload_n hx hb dX7_isAs_34 rfl (lv_at hl 1 rfl) ?_
      replace hf := ob_grd hf
      obtain ⟨hi_5, hf⟩ := hf
      refine va_iald hx hb hK hP 5 0 rfl rfl hi_5 dX7_isAs_35 ?_
      refine lv_icmp_eq (tgt := 41) hx hb dX7_isAs_36 (by decide) (fun c_6 => ?_) (fun c_6 => ?_)
      · replace hf := ob_pos c_6 hf
        refine lv_iconst (v := 0) hx hb dX7_isAs_41 (by decide) ?_
        refine lv_istore_n (lv' := [(2, .int ((0 : Int32))), (0, .ref a_t), (1, .int v1)]) hx hb dX7_isAs_42 rfl hl (by decide) rfl (fun ls hl => ?_)
        replace hf := ob_b hf
        obtain ⟨ex_18, hq_19, hf⟩ := hf
        refine l_f_BargeBasinModel_isAs_L43 hx hb hml hown hts hK hN hP jN _ ex_18 hq_19 ls (lv_sub hl [1, 2, 0] rfl) (fun ee_20 ls hl => ?_) (fun ee_31 ls hl => ?_)
        · subst ee_20
          replace hf := ob_inl hf
          replace hf := ob_un0 hf
          refine lv_iconst (v := 0) hx hb dX7_isAs_91 (by decide) ?_
          cases hf
          exact W.zret hx hb hr (by decide +kernel) (fun t ht hW => ⟨_, rfl, rfl, ht⟩) (fun q h => by cases h) dX7_isAs_92
        · subst ee_31
          replace hf := ob_inr hf
          replace hf := ob_un0 hf
          refine lv_iconst (v := 0) hx hb dX7_isAs_105 (by decide) ?_
          refine lv_istore_n (lv' := [(2, .int ((0 : Int32))), (0, .ref a_t), (1, .int v1)]) hx hb dX7_isAs_106 rfl hl (by decide) rfl (fun ls hl => ?_)
          replace hf := ob_b hf
          obtain ⟨ex_27, hq_28, hf⟩ := hf
          refine l_f_BargeBasinModel_isAs_L107 hx hb hml hown hts hK hN hP jN _ ex_27 hq_28 ls (lv_sub hl [1, 2, 0] rfl) (fun ee_29 ls hl => ?_) (fun ee_30 ls hl => ?_)
          · subst ee_29
            replace hf := ob_inl hf
            replace hf := ob_un0 hf
            refine lv_iconst (v := 0) hx hb dX7_isAs_124 (by decide) ?_
            cases hf
            exact W.zret hx hb hr (by decide +kernel) (fun t ht hW => ⟨_, rfl, rfl, ht⟩) (fun q h => by cases h) dX7_isAs_125
          · subst ee_30
            replace hf := ob_inr hf
            replace hf := ob_un0 hf
            refine lv_iconst (v := 1) hx hb dX7_isAs_132 (by decide) ?_
            cases hf
            exact W.zret hx hb hr (by decide +kernel) (fun t ht hW => ⟨_, rfl, rfl, ht⟩) (fun q h => by cases h) dX7_isAs_133
      · replace hf := ob_neg c_6 hf
        refine lv_iconst (v := 0) hx hb dX7_isAs_39 (by decide) ?_
        cases hf
        exact W.zret hx hb hr (by decide +kernel) (fun t ht hW => ⟨_, rfl, rfl, ht⟩) (fun q h => by cases h) dX7_isAs_40
