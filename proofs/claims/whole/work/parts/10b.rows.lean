theorem iw_wsX0_mirror_X0 : ∀ w ∈ wsX00, w ∈ wsX0_mirror := fun _ h => List.mem_cons_of_mem _ (List.mem_append_right _ h)
abbrev rm_Chart_mirror : Room := { frames := 1, cells := 0, slots := 0, locals := 23 }
set_option maxHeartbeats 4000000 in
set_option maxRecDepth 100000 in
theorem l_f_Chart_mirror_L12 {p : Program} {l : Launch} {e : Env} {s : State} {m : MethodId} {args : Array Value} {below : List Frame} {meth : Method} {c : Code} {Q : State → Prop} {A : Nat → Prop} {D : va_G} {cT : Nat → ClassId} {a_t a_kind a_place a_length a_gate a_across a_wide a_high a_shape : Nat} {k_width : Int32} {k_height : Int32} {k_barges : Int32} {k_taken : Int64} {k_place : Nat → Int32} {k_gate : Nat → Int32} {k_wide : Nat → Int32} {k_shape : Nat → Int64} {v1 : Int64} (hx : p.tables.exec = Jvm.exec) (hb : c.code = cX0_mirror) (hml : c.maxLocals = 4) (hown : s.vm.findClass RX0 = some m.cls) (hts : ∀ w ∈ wsX0_mirror, w.before args s = true) (hK : va_K D vwCl (jT cT) s) (hN : jNw s) (hA : ∀ q : Nat, s.heap.size ≤ q → A q) : ∀ (n : Nat) (v3 : Int32) (k_walls : Int64) (ex : (Int64)), f_Chart_mirror_L12 v1 k_width n v3 k_walls = some ex → ∀ (H : Heap) (locs : List Loc), va_P D vwCl [(a_t, .inr (0, [.int k_width, .int k_height, .int k_barges, .long k_walls, .long k_taken, .ref a_kind, .ref a_place, .ref a_length, .ref a_gate, .ref a_across, .ref a_wide, .ref a_high, .ref a_shape])), (a_place, .inl (cT 0, 12, .inl k_place)), (a_gate, .inl (cT 0, 12, .inl k_gate)), (a_wide, .inl (cT 0, 12, .inl k_wide)), (a_shape, .inl (cT 1, 12, .inr (.inl k_shape)))] H → va_D A [(a_t, .inr (0, [.int k_width, .int k_height, .int k_barges, .long k_walls, .long k_taken, .ref a_kind, .ref a_place, .ref a_length, .ref a_gate, .ref a_across, .ref a_wide, .ref a_high, .ref a_shape])), (a_place, .inl (cT 0, 12, .inl k_place)), (a_gate, .inl (cT 0, 12, .inl k_gate)), (a_wide, .inl (cT 0, 12, .inl k_wide)), (a_shape, .inl (cT 1, 12, .inr (.inl k_shape)))] → va_S A s.heap H locs → ∀ (ls : Array Slot), lv_has ls 4 [(0, .ref a_t), (1, .long v1), (3, .int v3)] → (∀ (k_walls_9 : Int64), ex = k_walls_9 → ∀ (H : Heap) (locs : List Loc), va_P D vwCl [(a_t, .inr (0, [.int k_width, .int k_height, .int k_barges, .long k_walls_9, .long k_taken, .ref a_kind, .ref a_place, .ref a_length, .ref a_gate, .ref a_across, .ref a_wide, .ref a_high, .ref a_shape])), (a_place, .inl (cT 0, 12, .inl k_place)), (a_gate, .inl (cT 0, 12, .inl k_gate)), (a_wide, .inl (cT 0, 12, .inl k_wide)), (a_shape, .inl (cT 1, 12, .inr (.inl k_shape)))] H → va_D A [(a_t, .inr (0, [.int k_width, .int k_height, .int k_barges, .long k_walls_9, .long k_taken, .ref a_kind, .ref a_place, .ref a_length, .ref a_gate, .ref a_across, .ref a_wide, .ref a_high, .ref a_shape])), (a_place, .inl (cT 0, 12, .inl k_place)), (a_gate, .inl (cT 0, 12, .inl k_gate)), (a_wide, .inl (cT 0, 12, .inl k_wide)), (a_shape, .inl (cT 1, 12, .inr (.inl k_shape)))] → va_S A s.heap H locs → ∀ (ls : Array Slot), lv_has ls 4 [(0, .ref a_t)] → W p l e (headSpec wsX0_mirror rm_Chart_mirror).room s m args below meth c H locs 0 0 Q (F0 m 51 ls [])) → W p l e (headSpec wsX0_mirror rm_Chart_mirror).room s m args below meth c H locs 0 0 Q (F0 m 12 ls []) := by
  intro n
  induction n with
  | zero => intro v3 k_walls ex hf; exact (ob_none hf).elim
  | succ n ih =>
    intro v3 k_walls ex hf H locs hP hD hS ls hl K0
    rw [f_Chart_mirror_L12] at hf
    refine lv_iload_n hx hb dX0_mirror_12 rfl (lv_at hl 2 rfl) ?_
    refine lv_bipush (v := 64) hx hb dX0_mirror_13 (by decide) ?_
    refine lv_icmp_ge (tgt := 51) hx hb dX0_mirror_15 (by decide) (fun c_1 => ?_) (fun c_1 => ?_)
    · replace hf := ob_pos c_1 hf
      cases hf
      exact K0 _ rfl _ _ hP hD hS ls (lv_sub hl [0] rfl)
    · replace hf := ob_neg c_1 hf
      refine lv_lload_n hx hb dX0_mirror_18 rfl (lv_at hl 1 rfl) ?_
      refine lv_iload_n hx hb dX0_mirror_19 rfl (lv_at hl 2 rfl) ?_
      refine lv_lushr hx hb dX0_mirror_20 rfl ?_
      refine lv_lconst (v := 1) hx hb dX0_mirror_21 (by decide) ?_
      refine lv_land hx hb dX0_mirror_22 ?_
      refine lv_lconst (v := 0) hx hb dX0_mirror_23 (by decide) ?_
      refine W.lcmp hx hb dX0_mirror_24 ?_
      refine lv_if_eq (tgt := 45) hx hb dX0_mirror_25 (by decide) (fun c_2 => ?_) (fun c_2 => ?_)
      · replace hf := ob_pos c_2 hf
        obtain ⟨v3_3, ev3_3⟩ : ∃ y : Int32, y = v3 + 1 := ⟨_, rfl⟩
        replace hf := ob_nm ev3_3 hf
        refine lv_iinc (v := v3_3) (lv' := [(3, .int v3_3), (0, .ref a_t), (1, .long v1)]) hx hb dX0_mirror_45 hl (k := 2) rfl (by rw [ev3_3]; rfl) (by decide) rfl (fun ls hl => ?_)
        refine lv_goto (tgt := 12) hx hb dX0_mirror_48 (by decide) ?_
        exact ih _ _ ex hf _ _ hP hD hS ls (lv_sub hl [1, 2, 0] rfl) K0
      · replace hf := ob_neg c_2 hf
        refine lv_aload_n hx hb dX0_mirror_28 rfl (lv_at hl 0 rfl) ?_
        refine lv_dup hx hb dX0_mirror_29 rfl ?_
        refine va_get (D := D) (ci := 0) (v := .long k_walls) (C := RX0) (T := TX0) (N := 13) hx hb hts iw_wsX0_mirror_X0 hown hK hP 0 rfl rfl 3 (by decide) (hts (.fieldLink RX0 45 "BargeBasin$Chart" "walls" "J") (List.mem_of_getElem? (i := 1) (by decide +kernel))) (fun _ h9 => h9) rfl dX0_mirror_30 ?_
        refine lv_lconst (v := 1) hx hb dX0_mirror_33 (by decide) ?_
        refine lv_aload_n hx hb dX0_mirror_34 rfl (lv_at hl 0 rfl) ?_
        refine lv_iload_n hx hb dX0_mirror_35 rfl (lv_at hl 2 rfl) ?_
        refine lv_iconst (v := 1) hx hb dX0_mirror_36 (by decide) ?_
        replace hf := ob_b hf
        obtain ⟨zr_4, hc_5, hf⟩ := hf
        refine vp_callSi (W.runV (As := [.int v3, .int ((1 : Int32))]) (rest := [.long ((1 : Int64)), .long k_walls, .ref a_t]) ⟨hx, hb, hml, hown, hts⟩ (c_f_Chart_mirrored l D cT a_t a_kind a_place a_length a_gate a_across a_wide a_high a_shape k_width k_height k_barges k_walls k_taken v3 ((1 : Int32)) _ hc_5) (cwV 2 hts gX0_mirror_X0_mirrored rfl rfl rfl (by decide +kernel) ⟨Nat.le_of_ble_eq_true rfl, Nat.le_of_ble_eq_true rfl⟩) ⟨fun a U g mk q => by obtain ⟨q0, qP, qK, qN⟩ := q; exact ⟨q0, qP, va_K.moved (u := U) (U := U.calling g mk a) (Vm.Alike.refl U.vm) qK, jNw_same (u := U) (U := U.calling g mk a) rfl qN⟩, va_recv hK hP (ci := 0) (q0 := 0) rfl rfl, fun U hU hW => ⟨rfl, by rw [hU]; exact hP.sub [0] rfl, va_K.moved hW.alike hK, jNw_warm hW hN⟩⟩ rfl rfl hl.1 rfl (lv_room (Nat.le_of_ble_eq_true rfl)) dX0_mirror_37 ⟨Nat.le_of_ble_eq_true rfl, Nat.le_of_ble_eq_true rfl⟩) (fun r_4 er_6 => ?_)
        subst er_6
        refine lv_lshl hx hb dX0_mirror_40 rfl ?_
        refine lv_lor hx hb dX0_mirror_41 ?_
        refine lv_topl (fun w_7 ew_7 => ?_)
        replace hf := ob_nm ew_7 hf
        refine va_put (D := D) (ci := 0) (v := .long w_7) (ty := .long) (C := RX0) (T := TX0) (N := 13) hx hb hts iw_wsX0_mirror_X0 tyX0 tyX0_ok nmX0 hown hK hP hD hS 0 rfl rfl 3 (by decide) (hts (.fieldLink RX0 45 "BargeBasin$Chart" "walls" "J") (List.mem_of_getElem? (i := 1) (by decide +kernel))) (fun _ h9 => h9) rfl (by decide +kernel) rfl rfl (Nat.le_of_ble_eq_true rfl) dX0_mirror_42 (fun H locs hP hD hS => ?_)
        replace hP : va_P D vwCl [(a_t, .inr (0, [.int k_width, .int k_height, .int k_barges, .long w_7, .long k_taken, .ref a_kind, .ref a_place, .ref a_length, .ref a_gate, .ref a_across, .ref a_wide, .ref a_high, .ref a_shape])), (a_place, .inl (cT 0, 12, .inl k_place)), (a_gate, .inl (cT 0, 12, .inl k_gate)), (a_wide, .inl (cT 0, 12, .inl k_wide)), (a_shape, .inl (cT 1, 12, .inr (.inl k_shape)))] H := hP
        replace hD : va_D A [(a_t, .inr (0, [.int k_width, .int k_height, .int k_barges, .long w_7, .long k_taken, .ref a_kind, .ref a_place, .ref a_length, .ref a_gate, .ref a_across, .ref a_wide, .ref a_high, .ref a_shape])), (a_place, .inl (cT 0, 12, .inl k_place)), (a_gate, .inl (cT 0, 12, .inl k_gate)), (a_wide, .inl (cT 0, 12, .inl k_wide)), (a_shape, .inl (cT 1, 12, .inr (.inl k_shape)))] := hD
        obtain ⟨v3_8, ev3_8⟩ : ∃ y : Int32, y = v3 + 1 := ⟨_, rfl⟩
        replace hf := ob_nm ev3_8 hf
        refine lv_iinc (v := v3_8) (lv' := [(3, .int v3_8), (0, .ref a_t), (1, .long v1)]) hx hb dX0_mirror_45 hl (k := 2) rfl (by rw [ev3_8]; rfl) (by decide) rfl (fun ls hl => ?_)
        refine lv_goto (tgt := 12) hx hb dX0_mirror_48 (by decide) ?_
        exact ih _ _ ex hf _ _ hP hD hS ls (lv_sub hl [1, 2, 0] rfl) K0
set_option maxHeartbeats 4000000 in
set_option maxRecDepth 100000 in
theorem l_f_Chart_mirror_L58 {p : Program} {l : Launch} {e : Env} {s : State} {m : MethodId} {args : Array Value} {below : List Frame} {meth : Method} {c : Code} {Q : State → Prop} {A : Nat → Prop} {D : va_G} {cT : Nat → ClassId} {a_t a_kind a_place a_length a_gate a_across a_wide a_high a_shape : Nat} {k_width : Int32} {k_height : Int32} {k_barges : Int32} {k_walls : Int64} {k_wide : Nat → Int32} {k_shape : Nat → Int64} (hx : p.tables.exec = Jvm.exec) (hb : c.code = cX0_mirror) (hml : c.maxLocals = 4) (hown : s.vm.findClass RX0 = some m.cls) (hts : ∀ w ∈ wsX0_mirror, w.before args s = true) (hK : va_K D vwCl (jT cT) s) (hN : jNw s) (hA : ∀ q : Nat, s.heap.size ≤ q → A q) : ∀ (n : Nat) (v3 : Int32) (k_taken : Int64) (k_place : Nat → Int32) (k_gate : Nat → Int32) (ex : (Int64) × (Nat → Int32) × (Nat → Int32)), f_Chart_mirror_L58 k_width k_barges k_wide k_shape n v3 k_taken k_place k_gate = some ex → ∀ (H : Heap) (locs : List Loc), va_P D vwCl [(a_t, .inr (0, [.int k_width, .int k_height, .int k_barges, .long k_walls, .long k_taken, .ref a_kind, .ref a_place, .ref a_length, .ref a_gate, .ref a_across, .ref a_wide, .ref a_high, .ref a_shape])), (a_place, .inl (cT 0, 12, .inl k_place)), (a_gate, .inl (cT 0, 12, .inl k_gate)), (a_wide, .inl (cT 0, 12, .inl k_wide)), (a_shape, .inl (cT 1, 12, .inr (.inl k_shape)))] H → va_D A [(a_t, .inr (0, [.int k_width, .int k_height, .int k_barges, .long k_walls, .long k_taken, .ref a_kind, .ref a_place, .ref a_length, .ref a_gate, .ref a_across, .ref a_wide, .ref a_high, .ref a_shape])), (a_place, .inl (cT 0, 12, .inl k_place)), (a_gate, .inl (cT 0, 12, .inl k_gate)), (a_wide, .inl (cT 0, 12, .inl k_wide)), (a_shape, .inl (cT 1, 12, .inr (.inl k_shape)))] → va_S A s.heap H locs → ∀ (ls : Array Slot), lv_has ls 4 [(0, .ref a_t), (3, .int v3)] → (∀ (k_taken_31 : Int64) (k_place_32 : Nat → Int32) (k_gate_33 : Nat → Int32), ex = (k_taken_31, k_place_32, k_gate_33) → ∀ (H : Heap) (locs : List Loc), va_P D vwCl [(a_t, .inr (0, [.int k_width, .int k_height, .int k_barges, .long k_walls, .long k_taken_31, .ref a_kind, .ref a_place, .ref a_length, .ref a_gate, .ref a_across, .ref a_wide, .ref a_high, .ref a_shape])), (a_place, .inl (cT 0, 12, .inl k_place_32)), (a_gate, .inl (cT 0, 12, .inl k_gate_33)), (a_wide, .inl (cT 0, 12, .inl k_wide)), (a_shape, .inl (cT 1, 12, .inr (.inl k_shape)))] H → va_D A [(a_t, .inr (0, [.int k_width, .int k_height, .int k_barges, .long k_walls, .long k_taken_31, .ref a_kind, .ref a_place, .ref a_length, .ref a_gate, .ref a_across, .ref a_wide, .ref a_high, .ref a_shape])), (a_place, .inl (cT 0, 12, .inl k_place_32)), (a_gate, .inl (cT 0, 12, .inl k_gate_33)), (a_wide, .inl (cT 0, 12, .inl k_wide)), (a_shape, .inl (cT 1, 12, .inr (.inl k_shape)))] → va_S A s.heap H locs → ∀ (ls : Array Slot), lv_has ls 4 [] → W p l e (headSpec wsX0_mirror rm_Chart_mirror).room s m args below meth c H locs 0 0 Q (F0 m 130 ls [])) → W p l e (headSpec wsX0_mirror rm_Chart_mirror).room s m args below meth c H locs 0 0 Q (F0 m 58 ls []) := by
  intro n
  induction n with
  | zero => intro v3 k_taken k_place k_gate ex hf; exact (ob_none hf).elim
  | succ n ih =>
    intro v3 k_taken k_place k_gate ex hf H locs hP hD hS ls hl K0
    rw [f_Chart_mirror_L58] at hf
    refine lv_iload_n hx hb dX0_mirror_58 rfl (lv_at hl 1 rfl) ?_
    refine lv_aload_n hx hb dX0_mirror_59 rfl (lv_at hl 0 rfl) ?_
    refine va_get (D := D) (ci := 0) (v := .int k_barges) (C := RX0) (T := TX0) (N := 13) hx hb hts iw_wsX0_mirror_X0 hown hK hP 0 rfl rfl 2 (by decide) (hts (.fieldLink RX0 52 "BargeBasin$Chart" "barges" "I") (List.mem_of_getElem? (i := 3) (by decide +kernel))) (fun _ h9 => h9) rfl dX0_mirror_60 ?_
    refine lv_icmp_ge (tgt := 130) hx hb dX0_mirror_63 (by decide) (fun c_13 => ?_) (fun c_13 => ?_)
    · replace hf := ob_pos c_13 hf
      cases hf
      exact K0 _ _ _ rfl _ _ hP hD hS ls (lv_sub hl [] rfl)
    · replace hf := ob_neg c_13 hf
      refine lv_aload_n hx hb dX0_mirror_66 rfl (lv_at hl 0 rfl) ?_
      refine va_get (D := D) (ci := 0) (v := .ref a_place) (C := RX0) (T := TX0) (N := 13) hx hb hts iw_wsX0_mirror_X0 hown hK hP 0 rfl rfl 6 (by decide) (hts (.fieldLink RX0 15 "BargeBasin$Chart" "place" "[I") (List.mem_of_getElem? (i := 4) (by decide +kernel))) (fun _ h9 => h9) rfl dX0_mirror_67 ?_
      refine lv_iload_n hx hb dX0_mirror_70 rfl (lv_at hl 1 rfl) ?_
      refine lv_aload_n hx hb dX0_mirror_71 rfl (lv_at hl 0 rfl) ?_
      refine lv_aload_n hx hb dX0_mirror_72 rfl (lv_at hl 0 rfl) ?_
      refine va_get (D := D) (ci := 0) (v := .ref a_place) (C := RX0) (T := TX0) (N := 13) hx hb hts iw_wsX0_mirror_X0 hown hK hP 0 rfl rfl 6 (by decide) (hts (.fieldLink RX0 15 "BargeBasin$Chart" "place" "[I") (List.mem_of_getElem? (i := 4) (by decide +kernel))) (fun _ h9 => h9) rfl dX0_mirror_73 ?_
      refine lv_iload_n hx hb dX0_mirror_76 rfl (lv_at hl 1 rfl) ?_
      replace hf := ob_grd hf
      obtain ⟨hi_14, hf⟩ := hf
      refine va_iald hx hb hK hP 1 0 rfl rfl hi_14 dX0_mirror_77 ?_
      refine lv_aload_n hx hb dX0_mirror_78 rfl (lv_at hl 0 rfl) ?_
      refine va_get (D := D) (ci := 0) (v := .ref a_wide) (C := RX0) (T := TX0) (N := 13) hx hb hts iw_wsX0_mirror_X0 hown hK hP 0 rfl rfl 10 (by decide) (hts (.fieldLink RX0 28 "BargeBasin$Chart" "wide" "[I") (List.mem_of_getElem? (i := 5) (by decide +kernel))) (fun _ h9 => h9) rfl dX0_mirror_79 ?_
      refine lv_iload_n hx hb dX0_mirror_82 rfl (lv_at hl 1 rfl) ?_
      replace hf := ob_grd hf
      obtain ⟨hi_15, hf⟩ := hf
      refine va_iald hx hb hK hP 3 0 rfl rfl hi_15 dX0_mirror_83 ?_
      replace hf := ob_b hf
      obtain ⟨zr_16, hc_17, hf⟩ := hf
      refine vp_callSi (W.runV (As := [.int (k_place v3.toNatClampNeg), .int (k_wide v3.toNatClampNeg)]) (rest := [.int v3, .ref a_place]) ⟨hx, hb, hml, hown, hts⟩ (c_f_Chart_mirrored l D cT a_t a_kind a_place a_length a_gate a_across a_wide a_high a_shape k_width k_height k_barges k_walls k_taken (k_place v3.toNatClampNeg) (k_wide v3.toNatClampNeg) _ hc_17) (cwV 2 hts gX0_mirror_X0_mirrored rfl rfl rfl (by decide +kernel) ⟨Nat.le_of_ble_eq_true rfl, Nat.le_of_ble_eq_true rfl⟩) ⟨fun a U g mk q => by obtain ⟨q0, qP, qK, qN⟩ := q; exact ⟨q0, qP, va_K.moved (u := U) (U := U.calling g mk a) (Vm.Alike.refl U.vm) qK, jNw_same (u := U) (U := U.calling g mk a) rfl qN⟩, va_recv hK hP (ci := 0) (q0 := 0) rfl rfl, fun U hU hW => ⟨rfl, by rw [hU]; exact hP.sub [0] rfl, va_K.moved hW.alike hK, jNw_warm hW hN⟩⟩ rfl rfl hl.1 rfl (lv_room (Nat.le_of_ble_eq_true rfl)) dX0_mirror_84 ⟨Nat.le_of_ble_eq_true rfl, Nat.le_of_ble_eq_true rfl⟩) (fun r_16 er_18 => ?_)
      subst er_18
      replace hf := ob_grd hf
      obtain ⟨hi_19, hf⟩ := hf
      refine va_iast hx hb hK hP hD hS 1 0 rfl rfl hi_19 dX0_mirror_87 (fun H locs hP hD hS => ?_)
      replace hP : va_P D vwCl [(a_t, .inr (0, [.int k_width, .int k_height, .int k_barges, .long k_walls, .long k_taken, .ref a_kind, .ref a_place, .ref a_length, .ref a_gate, .ref a_across, .ref a_wide, .ref a_high, .ref a_shape])), (a_place, .inl (cT 0, 12, .inl (upd k_place v3.toNatClampNeg r_16))), (a_gate, .inl (cT 0, 12, .inl k_gate)), (a_wide, .inl (cT 0, 12, .inl k_wide)), (a_shape, .inl (cT 1, 12, .inr (.inl k_shape)))] H := hP
      replace hD : va_D A [(a_t, .inr (0, [.int k_width, .int k_height, .int k_barges, .long k_walls, .long k_taken, .ref a_kind, .ref a_place, .ref a_length, .ref a_gate, .ref a_across, .ref a_wide, .ref a_high, .ref a_shape])), (a_place, .inl (cT 0, 12, .inl (upd k_place v3.toNatClampNeg r_16))), (a_gate, .inl (cT 0, 12, .inl k_gate)), (a_wide, .inl (cT 0, 12, .inl k_wide)), (a_shape, .inl (cT 1, 12, .inr (.inl k_shape)))] := hD
      refine lv_aload_n hx hb dX0_mirror_88 rfl (lv_at hl 0 rfl) ?_
      refine va_get (D := D) (ci := 0) (v := .ref a_gate) (C := RX0) (T := TX0) (N := 13) hx hb hts iw_wsX0_mirror_X0 hown hK hP 0 rfl rfl 8 (by decide) (hts (.fieldLink RX0 21 "BargeBasin$Chart" "gate" "[I") (List.mem_of_getElem? (i := 6) (by decide +kernel))) (fun _ h9 => h9) rfl dX0_mirror_89 ?_
      refine lv_iload_n hx hb dX0_mirror_92 rfl (lv_at hl 1 rfl) ?_
      refine lv_aload_n hx hb dX0_mirror_93 rfl (lv_at hl 0 rfl) ?_
      refine lv_aload_n hx hb dX0_mirror_94 rfl (lv_at hl 0 rfl) ?_
      refine va_get (D := D) (ci := 0) (v := .ref a_gate) (C := RX0) (T := TX0) (N := 13) hx hb hts iw_wsX0_mirror_X0 hown hK hP 0 rfl rfl 8 (by decide) (hts (.fieldLink RX0 21 "BargeBasin$Chart" "gate" "[I") (List.mem_of_getElem? (i := 6) (by decide +kernel))) (fun _ h9 => h9) rfl dX0_mirror_95 ?_
      refine lv_iload_n hx hb dX0_mirror_98 rfl (lv_at hl 1 rfl) ?_
      replace hf := ob_grd hf
      obtain ⟨hi_20, hf⟩ := hf
      refine va_iald hx hb hK hP 2 0 rfl rfl hi_20 dX0_mirror_99 ?_
      refine lv_aload_n hx hb dX0_mirror_100 rfl (lv_at hl 0 rfl) ?_
      refine va_get (D := D) (ci := 0) (v := .ref a_wide) (C := RX0) (T := TX0) (N := 13) hx hb hts iw_wsX0_mirror_X0 hown hK hP 0 rfl rfl 10 (by decide) (hts (.fieldLink RX0 28 "BargeBasin$Chart" "wide" "[I") (List.mem_of_getElem? (i := 5) (by decide +kernel))) (fun _ h9 => h9) rfl dX0_mirror_101 ?_
      refine lv_iload_n hx hb dX0_mirror_104 rfl (lv_at hl 1 rfl) ?_
      replace hf := ob_grd hf
      obtain ⟨hi_21, hf⟩ := hf
      refine va_iald hx hb hK hP 3 0 rfl rfl hi_21 dX0_mirror_105 ?_
      replace hf := ob_b hf
      obtain ⟨zr_22, hc_23, hf⟩ := hf
      refine vp_callSi (W.runV (As := [.int (k_gate v3.toNatClampNeg), .int (k_wide v3.toNatClampNeg)]) (rest := [.int v3, .ref a_gate]) ⟨hx, hb, hml, hown, hts⟩ (c_f_Chart_mirrored l D cT a_t a_kind a_place a_length a_gate a_across a_wide a_high a_shape k_width k_height k_barges k_walls k_taken (k_gate v3.toNatClampNeg) (k_wide v3.toNatClampNeg) _ hc_23) (cwV 2 hts gX0_mirror_X0_mirrored rfl rfl rfl (by decide +kernel) ⟨Nat.le_of_ble_eq_true rfl, Nat.le_of_ble_eq_true rfl⟩) ⟨fun a U g mk q => by obtain ⟨q0, qP, qK, qN⟩ := q; exact ⟨q0, qP, va_K.moved (u := U) (U := U.calling g mk a) (Vm.Alike.refl U.vm) qK, jNw_same (u := U) (U := U.calling g mk a) rfl qN⟩, va_recv hK hP (ci := 0) (q0 := 0) rfl rfl, fun U hU hW => ⟨rfl, by rw [hU]; exact hP.sub [0] rfl, va_K.moved hW.alike hK, jNw_warm hW hN⟩⟩ rfl rfl hl.1 rfl (lv_room (Nat.le_of_ble_eq_true rfl)) dX0_mirror_106 ⟨Nat.le_of_ble_eq_true rfl, Nat.le_of_ble_eq_true rfl⟩) (fun r_22 er_24 => ?_)
      subst er_24
      replace hf := ob_grd hf
      obtain ⟨hi_25, hf⟩ := hf
      refine va_iast hx hb hK hP hD hS 2 0 rfl rfl hi_25 dX0_mirror_109 (fun H locs hP hD hS => ?_)
      replace hP : va_P D vwCl [(a_t, .inr (0, [.int k_width, .int k_height, .int k_barges, .long k_walls, .long k_taken, .ref a_kind, .ref a_place, .ref a_length, .ref a_gate, .ref a_across, .ref a_wide, .ref a_high, .ref a_shape])), (a_place, .inl (cT 0, 12, .inl (upd k_place v3.toNatClampNeg r_16))), (a_gate, .inl (cT 0, 12, .inl (upd k_gate v3.toNatClampNeg r_22))), (a_wide, .inl (cT 0, 12, .inl k_wide)), (a_shape, .inl (cT 1, 12, .inr (.inl k_shape)))] H := hP
      replace hD : va_D A [(a_t, .inr (0, [.int k_width, .int k_height, .int k_barges, .long k_walls, .long k_taken, .ref a_kind, .ref a_place, .ref a_length, .ref a_gate, .ref a_across, .ref a_wide, .ref a_high, .ref a_shape])), (a_place, .inl (cT 0, 12, .inl (upd k_place v3.toNatClampNeg r_16))), (a_gate, .inl (cT 0, 12, .inl (upd k_gate v3.toNatClampNeg r_22))), (a_wide, .inl (cT 0, 12, .inl k_wide)), (a_shape, .inl (cT 1, 12, .inr (.inl k_shape)))] := hD
      refine lv_aload_n hx hb dX0_mirror_110 rfl (lv_at hl 0 rfl) ?_
      refine lv_dup hx hb dX0_mirror_111 rfl ?_
      refine va_get (D := D) (ci := 0) (v := .long k_taken) (C := RX0) (T := TX0) (N := 13) hx hb hts iw_wsX0_mirror_X0 hown hK hP 0 rfl rfl 4 (by decide) (hts (.fieldLink RX0 55 "BargeBasin$Chart" "taken" "J") (List.mem_of_getElem? (i := 2) (by decide +kernel))) (fun _ h9 => h9) rfl dX0_mirror_112 ?_
      refine lv_aload_n hx hb dX0_mirror_115 rfl (lv_at hl 0 rfl) ?_
      refine lv_iload_n hx hb dX0_mirror_116 rfl (lv_at hl 1 rfl) ?_
      replace hf := ob_b hf
      obtain ⟨zr_26, hc_27, hf⟩ := hf
      refine vp_callSl (W.runV (As := [.int v3]) (rest := [.long k_taken, .ref a_t]) ⟨hx, hb, hml, hown, hts⟩ (c_f_Chart_fieldsOf l D cT a_t a_kind a_place a_length a_gate a_across a_wide a_high a_shape k_width k_height k_barges k_walls k_taken (upd k_place v3.toNatClampNeg r_16) k_shape v3 _ hc_27) (cwV 1 hts gX0_mirror_X0_fieldsOf rfl rfl rfl (by decide +kernel) ⟨Nat.le_of_ble_eq_true rfl, Nat.le_of_ble_eq_true rfl⟩) ⟨fun a U g mk q => by obtain ⟨q0, qP, qK, qN⟩ := q; exact ⟨q0, qP, va_K.moved (u := U) (U := U.calling g mk a) (Vm.Alike.refl U.vm) qK, jNw_same (u := U) (U := U.calling g mk a) rfl qN⟩, va_recv hK hP (ci := 0) (q0 := 0) rfl rfl, fun U hU hW => ⟨rfl, by rw [hU]; exact hP.sub [0, 1, 4] rfl, va_K.moved hW.alike hK, jNw_warm hW hN⟩⟩ rfl rfl hl.1 rfl (lv_room (Nat.le_of_ble_eq_true rfl)) dX0_mirror_117 ⟨Nat.le_of_ble_eq_true rfl, Nat.le_of_ble_eq_true rfl⟩) (fun r_26 er_28 => ?_)
      subst er_28
      refine lv_lor hx hb dX0_mirror_120 ?_
      refine lv_topl (fun w_29 ew_29 => ?_)
      replace hf := ob_nm ew_29 hf
      refine va_put (D := D) (ci := 0) (v := .long w_29) (ty := .long) (C := RX0) (T := TX0) (N := 13) hx hb hts iw_wsX0_mirror_X0 tyX0 tyX0_ok nmX0 hown hK hP hD hS 0 rfl rfl 4 (by decide) (hts (.fieldLink RX0 55 "BargeBasin$Chart" "taken" "J") (List.mem_of_getElem? (i := 2) (by decide +kernel))) (fun _ h9 => h9) rfl (by decide +kernel) rfl rfl (Nat.le_of_ble_eq_true rfl) dX0_mirror_121 (fun H locs hP hD hS => ?_)
      replace hP : va_P D vwCl [(a_t, .inr (0, [.int k_width, .int k_height, .int k_barges, .long k_walls, .long w_29, .ref a_kind, .ref a_place, .ref a_length, .ref a_gate, .ref a_across, .ref a_wide, .ref a_high, .ref a_shape])), (a_place, .inl (cT 0, 12, .inl (upd k_place v3.toNatClampNeg r_16))), (a_gate, .inl (cT 0, 12, .inl (upd k_gate v3.toNatClampNeg r_22))), (a_wide, .inl (cT 0, 12, .inl k_wide)), (a_shape, .inl (cT 1, 12, .inr (.inl k_shape)))] H := hP
      replace hD : va_D A [(a_t, .inr (0, [.int k_width, .int k_height, .int k_barges, .long k_walls, .long w_29, .ref a_kind, .ref a_place, .ref a_length, .ref a_gate, .ref a_across, .ref a_wide, .ref a_high, .ref a_shape])), (a_place, .inl (cT 0, 12, .inl (upd k_place v3.toNatClampNeg r_16))), (a_gate, .inl (cT 0, 12, .inl (upd k_gate v3.toNatClampNeg r_22))), (a_wide, .inl (cT 0, 12, .inl k_wide)), (a_shape, .inl (cT 1, 12, .inr (.inl k_shape)))] := hD
      obtain ⟨v3_30, ev3_30⟩ : ∃ y : Int32, y = v3 + 1 := ⟨_, rfl⟩
      replace hf := ob_nm ev3_30 hf
      refine lv_iinc (v := v3_30) (lv' := [(3, .int v3_30), (0, .ref a_t)]) hx hb dX0_mirror_124 hl (k := 1) rfl (by rw [ev3_30]; rfl) (by decide) rfl (fun ls hl => ?_)
      refine lv_goto (tgt := 58) hx hb dX0_mirror_127 (by decide) ?_
      exact ih _ _ _ _ ex hf _ _ hP hD hS ls (lv_sub hl [1, 0] rfl) K0
set_option maxHeartbeats 4000000 in
set_option maxRecDepth 100000 in
theorem c_f_Chart_mirror (l : Launch) (D : va_G) (cT : Nat → ClassId) (sz : Nat) (a_t a_kind a_place a_length a_gate a_across a_wide a_high a_shape : Nat) (k_width : Int32) (k_height : Int32) (k_barges : Int32) (k_walls : Int64) (k_taken : Int64) (k_place : Nat → Int32) (k_gate : Nat → Int32) (k_wide : Nat → Int32) (k_shape : Nat → Int64) (k_walls₉ : Int64) (k_taken₉ : Int64) (k_place₉ : Nat → Int32) (k_gate₉ : Nat → Int32) (hf : f_Chart_mirror k_width k_barges k_walls k_taken k_place k_gate k_wide k_shape = some (k_walls₉, k_taken₉, k_place₉, k_gate₉)) : Met l yX0_mirror wsX0_mirror rm_Chart_mirror (va_Pc [.ref a_t] (fun U => U.heap.size = sz ∧ va_P D vwCl [(a_t, .inr (0, [.int k_width, .int k_height, .int k_barges, .long k_walls, .long k_taken, .ref a_kind, .ref a_place, .ref a_length, .ref a_gate, .ref a_across, .ref a_wide, .ref a_high, .ref a_shape])), (a_place, .inl (cT 0, 12, .inl k_place)), (a_gate, .inl (cT 0, 12, .inl k_gate)), (a_wide, .inl (cT 0, 12, .inl k_wide)), (a_shape, .inl (cT 1, 12, .inr (.inl k_shape)))] U.heap ∧ va_K D vwCl (jT cT) U ∧ jNw U ∧ va_D (fun _ => True) [(a_t, .inr (0, [.int k_width, .int k_height, .int k_barges, .long k_walls, .long k_taken, .ref a_kind, .ref a_place, .ref a_length, .ref a_gate, .ref a_across, .ref a_wide, .ref a_high, .ref a_shape])), (a_place, .inl (cT 0, 12, .inl k_place)), (a_gate, .inl (cT 0, 12, .inl k_gate)), (a_wide, .inl (cT 0, 12, .inl k_wide)), (a_shape, .inl (cT 1, 12, .inr (.inl k_shape)))])) (va_Qv (fun _ : Unit => True) (fun (_ : Unit) t => va_P D vwCl [(a_t, .inr (0, [.int k_width, .int k_height, .int k_barges, .long k_walls₉, .long k_taken₉, .ref a_kind, .ref a_place, .ref a_length, .ref a_gate, .ref a_across, .ref a_wide, .ref a_high, .ref a_shape])), (a_place, .inl (cT 0, 12, .inl k_place₉)), (a_gate, .inl (cT 0, 12, .inl k_gate₉)), (a_wide, .inl (cT 0, 12, .inl k_wide)), (a_shape, .inl (cT 1, 12, .inr (.inl k_shape)))] t.heap ∧ va_K D vwCl (jT cT) t ∧ va_D (va_A [(a_t, .inr (0, [.int k_width, .int k_height, .int k_barges, .long k_walls, .long k_taken, .ref a_kind, .ref a_place, .ref a_length, .ref a_gate, .ref a_across, .ref a_wide, .ref a_high, .ref a_shape])), (a_place, .inl (cT 0, 12, .inl k_place)), (a_gate, .inl (cT 0, 12, .inl k_gate)), (a_wide, .inl (cT 0, 12, .inl k_wide)), (a_shape, .inl (cT 1, 12, .inr (.inl k_shape)))] sz) [(a_t, .inr (0, [.int k_width, .int k_height, .int k_barges, .long k_walls₉, .long k_taken₉, .ref a_kind, .ref a_place, .ref a_length, .ref a_gate, .ref a_across, .ref a_wide, .ref a_high, .ref a_shape])), (a_place, .inl (cT 0, 12, .inl k_place₉)), (a_gate, .inl (cT 0, 12, .inl k_gate₉)), (a_wide, .inl (cT 0, 12, .inl k_wide)), (a_shape, .inl (cT 1, 12, .inr (.inl k_shape)))]) (va_A [(a_t, .inr (0, [.int k_width, .int k_height, .int k_barges, .long k_walls, .long k_taken, .ref a_kind, .ref a_place, .ref a_length, .ref a_gate, .ref a_across, .ref a_wide, .ref a_high, .ref a_shape])), (a_place, .inl (cT 0, 12, .inl k_place)), (a_gate, .inl (cT 0, 12, .inl k_gate)), (a_wide, .inl (cT 0, 12, .inl k_wide)), (a_shape, .inl (cT 1, 12, .inr (.inl k_shape)))] sz)) 0 0 (va_A [(a_t, .inr (0, [.int k_width, .int k_height, .int k_barges, .long k_walls, .long k_taken, .ref a_kind, .ref a_place, .ref a_length, .ref a_gate, .ref a_across, .ref a_wide, .ref a_high, .ref a_shape])), (a_place, .inl (cT 0, 12, .inl k_place)), (a_gate, .inl (cT 0, 12, .inl k_gate)), (a_wide, .inl (cT 0, 12, .inl k_wide)), (a_shape, .inl (cT 1, 12, .inr (.inl k_shape)))] sz) := by
  refine Met.ofW (cc := cX0_mirror) (maxL := 4) (ret := none) (by decide) rfl ?_
  intro p e s m args below meth c s₁ B hml hv
  obtain ⟨rfl, hsz, hP, hK, hN, hD0⟩ := hv
  have hx := B.exec
  have hb := B.bytes
  have hr := B.returns
  have hts := atoms_spec (ws := wsX0_mirror) B.pre
  have hown : s.vm.findClass RX0 = some m.cls := findClass_of_methodNamed B.named
  have hlocks := B.notSynchronized
  subst hsz
  have hD := hD0.self (sz := s.heap.size)
  clear hD0
  generalize hAe : va_A [(a_t, .inr (0, [.int k_width, .int k_height, .int k_barges, .long k_walls, .long k_taken, .ref a_kind, .ref a_place, .ref a_length, .ref a_gate, .ref a_across, .ref a_wide, .ref a_high, .ref a_shape])), (a_place, .inl (cT 0, 12, .inl k_place)), (a_gate, .inl (cT 0, 12, .inl k_gate)), (a_wide, .inl (cT 0, 12, .inl k_wide)), (a_shape, .inl (cT 1, 12, .inr (.inl k_shape)))] s.heap.size = A at hD ⊢
  have hA : ∀ q : Nat, s.heap.size ≤ q → A q := fun q h => by rw [← hAe]; exact Or.inr h
  clear hAe
  have hl := lv_entry ([.ref a_t]) (n := 4) (Nat.le_of_ble_eq_true rfl)
  rw [lg_entry_eq]
  generalize (lg_sl ([.ref a_t]) ++ List.replicate (4 - (lg_sl ([.ref a_t])).length) Slot.unset).toArray = ls at hl ⊢
  have hl : lv_has ls 4 [(0, .ref a_t)] := hl
  refine j_start (A := A) hP (fun H locs hP hS => ?_)
  unfold f_Chart_mirror at hf
  refine lv_aload_n hx hb dX0_mirror_0 rfl (lv_at hl 0 rfl) ?_
  refine va_get (D := D) (ci := 0) (v := .long k_walls) (C := RX0) (T := TX0) (N := 13) hx hb hts iw_wsX0_mirror_X0 hown hK hP 0 rfl rfl 3 (by decide) (hts (.fieldLink RX0 45 "BargeBasin$Chart" "walls" "J") (List.mem_of_getElem? (i := 1) (by decide +kernel))) (fun _ h9 => h9) rfl dX0_mirror_1 ?_
  refine lv_lstore_n (lv' := [(1, .long k_walls), (0, .ref a_t)]) hx hb dX0_mirror_4 rfl hl (by decide) rfl (fun ls hl => ?_)
  refine lv_aload_n hx hb dX0_mirror_5 rfl (lv_at hl 1 rfl) ?_
  refine lv_lconst (v := 0) hx hb dX0_mirror_6 (by decide) ?_
  refine va_put (D := D) (ci := 0) (v := .long ((0 : Int64))) (ty := .long) (C := RX0) (T := TX0) (N := 13) hx hb hts iw_wsX0_mirror_X0 tyX0 tyX0_ok nmX0 hown hK hP hD hS 0 rfl rfl 3 (by decide) (hts (.fieldLink RX0 45 "BargeBasin$Chart" "walls" "J") (List.mem_of_getElem? (i := 1) (by decide +kernel))) (fun _ h9 => h9) rfl (by decide +kernel) rfl rfl (Nat.le_of_ble_eq_true rfl) dX0_mirror_7 (fun H locs hP hD hS => ?_)
  replace hP : va_P D vwCl [(a_t, .inr (0, [.int k_width, .int k_height, .int k_barges, .long ((0 : Int64)), .long k_taken, .ref a_kind, .ref a_place, .ref a_length, .ref a_gate, .ref a_across, .ref a_wide, .ref a_high, .ref a_shape])), (a_place, .inl (cT 0, 12, .inl k_place)), (a_gate, .inl (cT 0, 12, .inl k_gate)), (a_wide, .inl (cT 0, 12, .inl k_wide)), (a_shape, .inl (cT 1, 12, .inr (.inl k_shape)))] H := hP
  replace hD : va_D A [(a_t, .inr (0, [.int k_width, .int k_height, .int k_barges, .long ((0 : Int64)), .long k_taken, .ref a_kind, .ref a_place, .ref a_length, .ref a_gate, .ref a_across, .ref a_wide, .ref a_high, .ref a_shape])), (a_place, .inl (cT 0, 12, .inl k_place)), (a_gate, .inl (cT 0, 12, .inl k_gate)), (a_wide, .inl (cT 0, 12, .inl k_wide)), (a_shape, .inl (cT 1, 12, .inr (.inl k_shape)))] := hD
  refine lv_iconst (v := 0) hx hb dX0_mirror_10 (by decide) ?_
  refine lv_istore_n (lv' := [(3, .int ((0 : Int32))), (1, .long k_walls), (0, .ref a_t)]) hx hb dX0_mirror_11 rfl hl (by decide) rfl (fun ls hl => ?_)
  replace hf := ob_b hf
  obtain ⟨ex_10, hq_11, hf⟩ := hf
  refine l_f_Chart_mirror_L12 hx hb hml hown hts hK hN hA jN _ _ ex_10 hq_11 _ _ hP hD hS ls (lv_sub hl [2, 1, 0] rfl) (fun k_walls_12 ee_40 H locs hP hD hS ls hl => ?_)
  have ee_40 := ee_40.symm
  subst ee_40
  refine lv_aload_n hx hb dX0_mirror_51 rfl (lv_at hl 0 rfl) ?_
  refine lv_lconst (v := 0) hx hb dX0_mirror_52 (by decide) ?_
  refine va_put (D := D) (ci := 0) (v := .long ((0 : Int64))) (ty := .long) (C := RX0) (T := TX0) (N := 13) hx hb hts iw_wsX0_mirror_X0 tyX0 tyX0_ok nmX0 hown hK hP hD hS 0 rfl rfl 4 (by decide) (hts (.fieldLink RX0 55 "BargeBasin$Chart" "taken" "J") (List.mem_of_getElem? (i := 2) (by decide +kernel))) (fun _ h9 => h9) rfl (by decide +kernel) rfl rfl (Nat.le_of_ble_eq_true rfl) dX0_mirror_53 (fun H locs hP hD hS => ?_)
  replace hP : va_P D vwCl [(a_t, .inr (0, [.int k_width, .int k_height, .int k_barges, .long k_walls_12, .long ((0 : Int64)), .ref a_kind, .ref a_place, .ref a_length, .ref a_gate, .ref a_across, .ref a_wide, .ref a_high, .ref a_shape])), (a_place, .inl (cT 0, 12, .inl k_place)), (a_gate, .inl (cT 0, 12, .inl k_gate)), (a_wide, .inl (cT 0, 12, .inl k_wide)), (a_shape, .inl (cT 1, 12, .inr (.inl k_shape)))] H := hP
  replace hD : va_D A [(a_t, .inr (0, [.int k_width, .int k_height, .int k_barges, .long k_walls_12, .long ((0 : Int64)), .ref a_kind, .ref a_place, .ref a_length, .ref a_gate, .ref a_across, .ref a_wide, .ref a_high, .ref a_shape])), (a_place, .inl (cT 0, 12, .inl k_place)), (a_gate, .inl (cT 0, 12, .inl k_gate)), (a_wide, .inl (cT 0, 12, .inl k_wide)), (a_shape, .inl (cT 1, 12, .inr (.inl k_shape)))] := hD
  refine lv_iconst (v := 0) hx hb dX0_mirror_56 (by decide) ?_
  refine lv_istore_n (lv' := [(3, .int ((0 : Int32))), (0, .ref a_t)]) hx hb dX0_mirror_57 rfl hl (by decide) rfl (fun ls hl => ?_)
  replace hf := ob_b hf
  obtain ⟨ex_34, hq_35, hf⟩ := hf
  refine l_f_Chart_mirror_L58 hx hb hml hown hts hK hN hA jN _ _ _ _ ex_34 hq_35 _ _ hP hD hS ls (lv_sub hl [1, 0] rfl) (fun k_taken_36 k_place_37 k_gate_38 ee_39 H locs hP hD hS ls hl => ?_)
  subst ee_39
  replace hf := ob_un3 hf
  replace hf := ob_t4 hf
  obtain ⟨ee0, ee1, ee2, ee3⟩ := hf
  subst ee0
  subst ee1
  subst ee2
  subst ee3
  exact W.vret hx hb hr (fun t ht hW => ⟨⟨(), rfl, trivial, by rw [ht]; exact hP, va_K.moved hW.alike hK, hD⟩, hS.F ht⟩) hS.2.2 dX0_mirror_130
theorem iw_wsX0_turned_X0 : ∀ w ∈ wsX00, w ∈ wsX0_turned := fun _ h => List.mem_cons_of_mem _ (List.mem_append_right _ h)
abbrev rm_Chart_turned : Room := { frames := 0, cells := 0, slots := 0, locals := 0 }
set_option maxHeartbeats 4000000 in
set_option maxRecDepth 100000 in
theorem c_f_Chart_turned (l : Launch) (D : va_G) (cT : Nat → ClassId) (a_t a_kind a_place a_length a_gate a_across a_wide a_high a_shape : Nat) (k_width : Int32) (k_height : Int32) (k_barges : Int32) (k_walls : Int64) (k_taken : Int64) (v1 : Int32) (v2 : Int32) (r0 : Int32) (hf : f_Chart_turned v1 v2 k_height = some r0) : Met l yX0_turned wsX0_turned rm_Chart_turned (va_Pc [.ref a_t, .int v1, .int v2] (fun U => va_P D vwCl [(a_t, .inr (0, [.int k_width, .int k_height, .int k_barges, .long k_walls, .long k_taken, .ref a_kind, .ref a_place, .ref a_length, .ref a_gate, .ref a_across, .ref a_wide, .ref a_high, .ref a_shape]))] U.heap ∧ va_K D vwCl (jT cT) U ∧ jNw U)) (vp_Si (fun r => r = r0)) 0 0 (fun _ => False) := by
  refine Met.ofW (cc := cX0_turned) (maxL := 5) (ret := (some .int)) (by decide) rfl ?_
  intro p e s m args below meth c s₁ B hml hv
  obtain ⟨rfl, hP, hK, hN⟩ := hv
  have hx := B.exec
  have hb := B.bytes
  have hr := B.returns
  have hts := atoms_spec (ws := wsX0_turned) B.pre
  have hown : s.vm.findClass RX0 = some m.cls := findClass_of_methodNamed B.named
  have hlocks := B.notSynchronized
  have hl := lv_entry ([.ref a_t, .int v1, .int v2]) (n := 5) (Nat.le_of_ble_eq_true rfl)
  rw [lg_entry_eq]
  generalize (lg_sl ([.ref a_t, .int v1, .int v2]) ++ List.replicate (5 - (lg_sl ([.ref a_t, .int v1, .int v2])).length) Slot.unset).toArray = ls at hl ⊢
  have hl : lv_has ls 5 [(0, .ref a_t), (1, .int v1), (2, .int v2)] := hl
  unfold f_Chart_turned at hf
  refine lv_iload_n hx hb dX0_turned_0 rfl (lv_at hl 1 rfl) ?_
  refine lv_bipush (v := 7) hx hb dX0_turned_1 (by decide) ?_
  refine lv_iand hx hb dX0_turned_3 ?_
  refine lv_topi (fun v3_1 ev3_1 => ?_)
  replace hf := ob_nm ev3_1 hf
  refine lv_istore_n (lv' := [(3, .int v3_1), (0, .ref a_t), (1, .int v1), (2, .int v2)]) hx hb dX0_turned_4 rfl hl (by decide) rfl (fun ls hl => ?_)
  refine lv_iload_n hx hb dX0_turned_5 rfl (lv_at hl 2 rfl) ?_
  refine lv_iconst (v := 3) hx hb dX0_turned_6 (by decide) ?_
  refine lv_ishr hx hb dX0_turned_7 ?_
  refine lv_topi (fun v4_2 ev4_2 => ?_)
  replace hf := ob_nm ev4_2 hf
  refine lv_istore (lv' := [(4, .int v4_2), (3, .int v3_1), (0, .ref a_t), (1, .int v1), (2, .int v2)]) hx hb dX0_turned_8 hl (by decide) rfl (fun ls hl => ?_)
  refine lv_bipush (v := 8) hx hb dX0_turned_10 (by decide) ?_
  refine lv_iload_n hx hb dX0_turned_12 rfl (lv_at hl 1 rfl) ?_
  refine lv_imul hx hb dX0_turned_13 ?_
  refine lv_aload_n hx hb dX0_turned_14 rfl (lv_at hl 2 rfl) ?_
  refine va_get (D := D) (ci := 0) (v := .int k_height) (C := RX0) (T := TX0) (N := 13) hx hb hts iw_wsX0_turned_X0 hown hK hP 0 rfl rfl 1 (by decide) (hts (.fieldLink RX0 42 "BargeBasin$Chart" "height" "I") (List.mem_of_getElem? (i := 1) (by decide +kernel))) (fun _ h9 => h9) rfl dX0_turned_15 ?_
  refine lv_iload hx hb dX0_turned_18 (lv_at hl 0 rfl) ?_
  refine lv_isub hx hb dX0_turned_20 ?_
  refine lv_iload_n hx hb dX0_turned_21 rfl (lv_at hl 4 rfl) ?_
  refine lv_isub hx hb dX0_turned_22 ?_
  refine lv_iadd hx hb dX0_turned_23 ?_
  cases hf
  exact W.iret hx hb hr (fun t ht hW => ⟨_, rfl, rfl, ht⟩) (fun q h => by cases h) dX0_turned_24
theorem iw_wsX0_quarter_X0 : ∀ w ∈ wsX00, w ∈ wsX0_quarter := fun _ h => List.mem_cons_of_mem _ (List.mem_append_right _ h)
abbrev rm_Chart_quarter : Room := { frames := 2, cells := 0, slots := 0, locals := 47 }
set_option maxHeartbeats 4000000 in
set_option maxRecDepth 100000 in
theorem l_f_Chart_quarter_L12 {p : Program} {l : Launch} {e : Env} {s : State} {m : MethodId} {args : Array Value} {below : List Frame} {meth : Method} {c : Code} {Q : State → Prop} {A : Nat → Prop} {D : va_G} {cT : Nat → ClassId} {a_t a_kind a_place a_length a_gate a_across a_wide a_high a_shape : Nat} {k_width : Int32} {k_height : Int32} {k_barges : Int32} {k_taken : Int64} {k_kind : Nat → Int32} {k_place : Nat → Int32} {k_length : Nat → Int32} {k_gate : Nat → Int32} {k_across : Nat → Int32} {k_wide : Nat → Int32} {k_high : Nat → Int32} {k_shape : Nat → Int64} {v1 : Int64} (hx : p.tables.exec = Jvm.exec) (hb : c.code = cX0_quarter) (hml : c.maxLocals = 4) (hown : s.vm.findClass RX0 = some m.cls) (hts : ∀ w ∈ wsX0_quarter, w.before args s = true) (hK : va_K D vwCl (jT cT) s) (hN : jNw s) (hA : ∀ q : Nat, s.heap.size ≤ q → A q) : ∀ (n : Nat) (v3 : Int32) (k_walls : Int64) (ex : (Int64)), f_Chart_quarter_L12 v1 k_height n v3 k_walls = some ex → ∀ (H : Heap) (locs : List Loc), va_P D vwCl [(a_t, .inr (0, [.int k_width, .int k_height, .int k_barges, .long k_walls, .long k_taken, .ref a_kind, .ref a_place, .ref a_length, .ref a_gate, .ref a_across, .ref a_wide, .ref a_high, .ref a_shape])), (a_kind, .inl (cT 0, 12, .inl k_kind)), (a_place, .inl (cT 0, 12, .inl k_place)), (a_length, .inl (cT 0, 12, .inl k_length)), (a_gate, .inl (cT 0, 12, .inl k_gate)), (a_across, .inl (cT 2, 12, .inl k_across)), (a_wide, .inl (cT 0, 12, .inl k_wide)), (a_high, .inl (cT 0, 12, .inl k_high)), (a_shape, .inl (cT 1, 12, .inr (.inl k_shape)))] H → va_D A [(a_t, .inr (0, [.int k_width, .int k_height, .int k_barges, .long k_walls, .long k_taken, .ref a_kind, .ref a_place, .ref a_length, .ref a_gate, .ref a_across, .ref a_wide, .ref a_high, .ref a_shape])), (a_kind, .inl (cT 0, 12, .inl k_kind)), (a_place, .inl (cT 0, 12, .inl k_place)), (a_length, .inl (cT 0, 12, .inl k_length)), (a_gate, .inl (cT 0, 12, .inl k_gate)), (a_across, .inl (cT 2, 12, .inl k_across)), (a_wide, .inl (cT 0, 12, .inl k_wide)), (a_high, .inl (cT 0, 12, .inl k_high)), (a_shape, .inl (cT 1, 12, .inr (.inl k_shape)))] → va_S A s.heap H locs → ∀ (ls : Array Slot), lv_has ls 4 [(0, .ref a_t), (1, .long v1), (3, .int v3)] → (∀ (k_walls_9 : Int64), ex = k_walls_9 → ∀ (H : Heap) (locs : List Loc), va_P D vwCl [(a_t, .inr (0, [.int k_width, .int k_height, .int k_barges, .long k_walls_9, .long k_taken, .ref a_kind, .ref a_place, .ref a_length, .ref a_gate, .ref a_across, .ref a_wide, .ref a_high, .ref a_shape])), (a_kind, .inl (cT 0, 12, .inl k_kind)), (a_place, .inl (cT 0, 12, .inl k_place)), (a_length, .inl (cT 0, 12, .inl k_length)), (a_gate, .inl (cT 0, 12, .inl k_gate)), (a_across, .inl (cT 2, 12, .inl k_across)), (a_wide, .inl (cT 0, 12, .inl k_wide)), (a_high, .inl (cT 0, 12, .inl k_high)), (a_shape, .inl (cT 1, 12, .inr (.inl k_shape)))] H → va_D A [(a_t, .inr (0, [.int k_width, .int k_height, .int k_barges, .long k_walls_9, .long k_taken, .ref a_kind, .ref a_place, .ref a_length, .ref a_gate, .ref a_across, .ref a_wide, .ref a_high, .ref a_shape])), (a_kind, .inl (cT 0, 12, .inl k_kind)), (a_place, .inl (cT 0, 12, .inl k_place)), (a_length, .inl (cT 0, 12, .inl k_length)), (a_gate, .inl (cT 0, 12, .inl k_gate)), (a_across, .inl (cT 2, 12, .inl k_across)), (a_wide, .inl (cT 0, 12, .inl k_wide)), (a_high, .inl (cT 0, 12, .inl k_high)), (a_shape, .inl (cT 1, 12, .inr (.inl k_shape)))] → va_S A s.heap H locs → ∀ (ls : Array Slot), lv_has ls 4 [(0, .ref a_t)] → W p l e (headSpec wsX0_quarter rm_Chart_quarter).room s m args below meth c H locs 0 0 Q (F0 m 51 ls [])) → W p l e (headSpec wsX0_quarter rm_Chart_quarter).room s m args below meth c H locs 0 0 Q (F0 m 12 ls []) := by
  intro n
  induction n with
  | zero => intro v3 k_walls ex hf; exact (ob_none hf).elim
  | succ n ih =>
    intro v3 k_walls ex hf H locs hP hD hS ls hl K0
    rw [f_Chart_quarter_L12] at hf
    refine lv_iload_n hx hb dX0_quarter_12 rfl (lv_at hl 2 rfl) ?_
    refine lv_bipush (v := 64) hx hb dX0_quarter_13 (by decide) ?_
    refine lv_icmp_ge (tgt := 51) hx hb dX0_quarter_15 (by decide) (fun c_1 => ?_) (fun c_1 => ?_)
    · replace hf := ob_pos c_1 hf
      cases hf
      exact K0 _ rfl _ _ hP hD hS ls (lv_sub hl [0] rfl)
    · replace hf := ob_neg c_1 hf
      refine lv_lload_n hx hb dX0_quarter_18 rfl (lv_at hl 1 rfl) ?_
      refine lv_iload_n hx hb dX0_quarter_19 rfl (lv_at hl 2 rfl) ?_
      refine lv_lushr hx hb dX0_quarter_20 rfl ?_
      refine lv_lconst (v := 1) hx hb dX0_quarter_21 (by decide) ?_
      refine lv_land hx hb dX0_quarter_22 ?_
      refine lv_lconst (v := 0) hx hb dX0_quarter_23 (by decide) ?_
      refine W.lcmp hx hb dX0_quarter_24 ?_
      refine lv_if_eq (tgt := 45) hx hb dX0_quarter_25 (by decide) (fun c_2 => ?_) (fun c_2 => ?_)
      · replace hf := ob_pos c_2 hf
        obtain ⟨v3_3, ev3_3⟩ : ∃ y : Int32, y = v3 + 1 := ⟨_, rfl⟩
        replace hf := ob_nm ev3_3 hf
        refine lv_iinc (v := v3_3) (lv' := [(3, .int v3_3), (0, .ref a_t), (1, .long v1)]) hx hb dX0_quarter_45 hl (k := 2) rfl (by rw [ev3_3]; rfl) (by decide) rfl (fun ls hl => ?_)
        refine lv_goto (tgt := 12) hx hb dX0_quarter_48 (by decide) ?_
        exact ih _ _ ex hf _ _ hP hD hS ls (lv_sub hl [1, 2, 0] rfl) K0
      · replace hf := ob_neg c_2 hf
        refine lv_aload_n hx hb dX0_quarter_28 rfl (lv_at hl 0 rfl) ?_
        refine lv_dup hx hb dX0_quarter_29 rfl ?_
        refine va_get (D := D) (ci := 0) (v := .long k_walls) (C := RX0) (T := TX0) (N := 13) hx hb hts iw_wsX0_quarter_X0 hown hK hP 0 rfl rfl 3 (by decide) (hts (.fieldLink RX0 45 "BargeBasin$Chart" "walls" "J") (List.mem_of_getElem? (i := 1) (by decide +kernel))) (fun _ h9 => h9) rfl dX0_quarter_30 ?_
        refine lv_lconst (v := 1) hx hb dX0_quarter_33 (by decide) ?_
        refine lv_aload_n hx hb dX0_quarter_34 rfl (lv_at hl 0 rfl) ?_
        refine lv_iload_n hx hb dX0_quarter_35 rfl (lv_at hl 2 rfl) ?_
        refine lv_iconst (v := 1) hx hb dX0_quarter_36 (by decide) ?_
        replace hf := ob_b hf
        obtain ⟨zr_4, hc_5, hf⟩ := hf
        refine vp_callSi (W.runV (As := [.int v3, .int ((1 : Int32))]) (rest := [.long ((1 : Int64)), .long k_walls, .ref a_t]) ⟨hx, hb, hml, hown, hts⟩ (c_f_Chart_turned l D cT a_t a_kind a_place a_length a_gate a_across a_wide a_high a_shape k_width k_height k_barges k_walls k_taken v3 ((1 : Int32)) _ hc_5) (cwV 2 hts gX0_quarter_X0_turned rfl rfl rfl (by decide +kernel) ⟨Nat.le_of_ble_eq_true rfl, Nat.le_of_ble_eq_true rfl⟩) ⟨fun a U g mk q => by obtain ⟨q0, qP, qK, qN⟩ := q; exact ⟨q0, qP, va_K.moved (u := U) (U := U.calling g mk a) (Vm.Alike.refl U.vm) qK, jNw_same (u := U) (U := U.calling g mk a) rfl qN⟩, va_recv hK hP (ci := 0) (q0 := 0) rfl rfl, fun U hU hW => ⟨rfl, by rw [hU]; exact hP.sub [0] rfl, va_K.moved hW.alike hK, jNw_warm hW hN⟩⟩ rfl rfl hl.1 rfl (lv_room (Nat.le_of_ble_eq_true rfl)) dX0_quarter_37 ⟨Nat.le_of_ble_eq_true rfl, Nat.le_of_ble_eq_true rfl⟩) (fun r_4 er_6 => ?_)
        subst er_6
        refine lv_lshl hx hb dX0_quarter_40 rfl ?_
        refine lv_lor hx hb dX0_quarter_41 ?_
        refine lv_topl (fun w_7 ew_7 => ?_)
        replace hf := ob_nm ew_7 hf
        refine va_put (D := D) (ci := 0) (v := .long w_7) (ty := .long) (C := RX0) (T := TX0) (N := 13) hx hb hts iw_wsX0_quarter_X0 tyX0 tyX0_ok nmX0 hown hK hP hD hS 0 rfl rfl 3 (by decide) (hts (.fieldLink RX0 45 "BargeBasin$Chart" "walls" "J") (List.mem_of_getElem? (i := 1) (by decide +kernel))) (fun _ h9 => h9) rfl (by decide +kernel) rfl rfl (Nat.le_of_ble_eq_true rfl) dX0_quarter_42 (fun H locs hP hD hS => ?_)
        replace hP : va_P D vwCl [(a_t, .inr (0, [.int k_width, .int k_height, .int k_barges, .long w_7, .long k_taken, .ref a_kind, .ref a_place, .ref a_length, .ref a_gate, .ref a_across, .ref a_wide, .ref a_high, .ref a_shape])), (a_kind, .inl (cT 0, 12, .inl k_kind)), (a_place, .inl (cT 0, 12, .inl k_place)), (a_length, .inl (cT 0, 12, .inl k_length)), (a_gate, .inl (cT 0, 12, .inl k_gate)), (a_across, .inl (cT 2, 12, .inl k_across)), (a_wide, .inl (cT 0, 12, .inl k_wide)), (a_high, .inl (cT 0, 12, .inl k_high)), (a_shape, .inl (cT 1, 12, .inr (.inl k_shape)))] H := hP
        replace hD : va_D A [(a_t, .inr (0, [.int k_width, .int k_height, .int k_barges, .long w_7, .long k_taken, .ref a_kind, .ref a_place, .ref a_length, .ref a_gate, .ref a_across, .ref a_wide, .ref a_high, .ref a_shape])), (a_kind, .inl (cT 0, 12, .inl k_kind)), (a_place, .inl (cT 0, 12, .inl k_place)), (a_length, .inl (cT 0, 12, .inl k_length)), (a_gate, .inl (cT 0, 12, .inl k_gate)), (a_across, .inl (cT 2, 12, .inl k_across)), (a_wide, .inl (cT 0, 12, .inl k_wide)), (a_high, .inl (cT 0, 12, .inl k_high)), (a_shape, .inl (cT 1, 12, .inr (.inl k_shape)))] := hD
        obtain ⟨v3_8, ev3_8⟩ : ∃ y : Int32, y = v3 + 1 := ⟨_, rfl⟩
        replace hf := ob_nm ev3_8 hf
        refine lv_iinc (v := v3_8) (lv' := [(3, .int v3_8), (0, .ref a_t), (1, .long v1)]) hx hb dX0_quarter_45 hl (k := 2) rfl (by rw [ev3_8]; rfl) (by decide) rfl (fun ls hl => ?_)
        refine lv_goto (tgt := 12) hx hb dX0_quarter_48 (by decide) ?_
        exact ih _ _ ex hf _ _ hP hD hS ls (lv_sub hl [1, 2, 0] rfl) K0
set_option maxHeartbeats 4000000 in
set_option maxRecDepth 100000 in
theorem l_f_Chart_quarter_L58 {p : Program} {l : Launch} {e : Env} {s : State} {m : MethodId} {args : Array Value} {below : List Frame} {meth : Method} {c : Code} {Q : State → Prop} {A : Nat → Prop} {D : va_G} {cT : Nat → ClassId} {a_t a_kind a_place a_length a_gate a_across a_wide a_high a_shape : Nat} {k_width : Int32} {k_height : Int32} {k_barges : Int32} {k_walls : Int64} {k_kind : Nat → Int32} {k_length : Nat → Int32} (hx : p.tables.exec = Jvm.exec) (hb : c.code = cX0_quarter) (hml : c.maxLocals = 4) (hown : s.vm.findClass RX0 = some m.cls) (hts : ∀ w ∈ wsX0_quarter, w.before args s = true) (hK : va_K D vwCl (jT cT) s) (hN : jNw s) (hA : ∀ q : Nat, s.heap.size ≤ q → A q) : ∀ (n : Nat) (v3 : Int32) (k_taken : Int64) (k_place : Nat → Int32) (k_gate : Nat → Int32) (k_across : Nat → Int32) (k_wide : Nat → Int32) (k_high : Nat → Int32) (k_shape : Nat → Int64) (ex : (Int64) × (Nat → Int32) × (Nat → Int32) × (Nat → Int32) × (Nat → Int32) × (Nat → Int32) × (Nat → Int64)), f_Chart_quarter_L58 k_height k_barges k_kind k_length n v3 k_taken k_place k_gate k_across k_wide k_high k_shape = some ex → ∀ (H : Heap) (locs : List Loc), va_P D vwCl [(a_t, .inr (0, [.int k_width, .int k_height, .int k_barges, .long k_walls, .long k_taken, .ref a_kind, .ref a_place, .ref a_length, .ref a_gate, .ref a_across, .ref a_wide, .ref a_high, .ref a_shape])), (a_kind, .inl (cT 0, 12, .inl k_kind)), (a_place, .inl (cT 0, 12, .inl k_place)), (a_length, .inl (cT 0, 12, .inl k_length)), (a_gate, .inl (cT 0, 12, .inl k_gate)), (a_across, .inl (cT 2, 12, .inl k_across)), (a_wide, .inl (cT 0, 12, .inl k_wide)), (a_high, .inl (cT 0, 12, .inl k_high)), (a_shape, .inl (cT 1, 12, .inr (.inl k_shape)))] H → va_D A [(a_t, .inr (0, [.int k_width, .int k_height, .int k_barges, .long k_walls, .long k_taken, .ref a_kind, .ref a_place, .ref a_length, .ref a_gate, .ref a_across, .ref a_wide, .ref a_high, .ref a_shape])), (a_kind, .inl (cT 0, 12, .inl k_kind)), (a_place, .inl (cT 0, 12, .inl k_place)), (a_length, .inl (cT 0, 12, .inl k_length)), (a_gate, .inl (cT 0, 12, .inl k_gate)), (a_across, .inl (cT 2, 12, .inl k_across)), (a_wide, .inl (cT 0, 12, .inl k_wide)), (a_high, .inl (cT 0, 12, .inl k_high)), (a_shape, .inl (cT 1, 12, .inr (.inl k_shape)))] → va_S A s.heap H locs → ∀ (ls : Array Slot), lv_has ls 4 [(0, .ref a_t), (3, .int v3)] → (∀ (k_taken_44 : Int64) (k_place_45 : Nat → Int32) (k_gate_46 : Nat → Int32) (k_across_47 : Nat → Int32) (k_wide_48 : Nat → Int32) (k_high_49 : Nat → Int32) (k_shape_50 : Nat → Int64), ex = (k_taken_44, k_place_45, k_gate_46, k_across_47, k_wide_48, k_high_49, k_shape_50) → ∀ (H : Heap) (locs : List Loc), va_P D vwCl [(a_t, .inr (0, [.int k_width, .int k_height, .int k_barges, .long k_walls, .long k_taken_44, .ref a_kind, .ref a_place, .ref a_length, .ref a_gate, .ref a_across, .ref a_wide, .ref a_high, .ref a_shape])), (a_kind, .inl (cT 0, 12, .inl k_kind)), (a_place, .inl (cT 0, 12, .inl k_place_45)), (a_length, .inl (cT 0, 12, .inl k_length)), (a_gate, .inl (cT 0, 12, .inl k_gate_46)), (a_across, .inl (cT 2, 12, .inl k_across_47)), (a_wide, .inl (cT 0, 12, .inl k_wide_48)), (a_high, .inl (cT 0, 12, .inl k_high_49)), (a_shape, .inl (cT 1, 12, .inr (.inl k_shape_50)))] H → va_D A [(a_t, .inr (0, [.int k_width, .int k_height, .int k_barges, .long k_walls, .long k_taken_44, .ref a_kind, .ref a_place, .ref a_length, .ref a_gate, .ref a_across, .ref a_wide, .ref a_high, .ref a_shape])), (a_kind, .inl (cT 0, 12, .inl k_kind)), (a_place, .inl (cT 0, 12, .inl k_place_45)), (a_length, .inl (cT 0, 12, .inl k_length)), (a_gate, .inl (cT 0, 12, .inl k_gate_46)), (a_across, .inl (cT 2, 12, .inl k_across_47)), (a_wide, .inl (cT 0, 12, .inl k_wide_48)), (a_high, .inl (cT 0, 12, .inl k_high_49)), (a_shape, .inl (cT 1, 12, .inr (.inl k_shape_50)))] → va_S A s.heap H locs → ∀ (ls : Array Slot), lv_has ls 4 [(0, .ref a_t)] → W p l e (headSpec wsX0_quarter rm_Chart_quarter).room s m args below meth c H locs 0 0 Q (F0 m 167 ls [])) → W p l e (headSpec wsX0_quarter rm_Chart_quarter).room s m args below meth c H locs 0 0 Q (F0 m 58 ls []) := by
  intro n
  induction n with
  | zero => intro v3 k_taken k_place k_gate k_across k_wide k_high k_shape ex hf; exact (ob_none hf).elim
  | succ n ih =>
    intro v3 k_taken k_place k_gate k_across k_wide k_high k_shape ex hf H locs hP hD hS ls hl K0
    have J141 : ∀ (v3 : Int32) (s1 : Int32) (s2 : Int32) (k_taken : Int64) (k_place : Nat → Int32) (k_gate : Nat → Int32) (k_across : Nat → Int32) (k_wide : Nat → Int32) (k_high : Nat → Int32) (k_shape : Nat → Int64), f_Chart_quarter_J141 (f_Chart_quarter_L58 k_height k_barges k_kind k_length n) v3 s1 s2 k_taken k_kind k_place k_length k_gate k_across k_wide k_high k_shape = some ex → ∀ (H : Heap) (locs : List Loc), va_P D vwCl [(a_t, .inr (0, [.int k_width, .int k_height, .int k_barges, .long k_walls, .long k_taken, .ref a_kind, .ref a_place, .ref a_length, .ref a_gate, .ref a_across, .ref a_wide, .ref a_high, .ref a_shape])), (a_kind, .inl (cT 0, 12, .inl k_kind)), (a_place, .inl (cT 0, 12, .inl k_place)), (a_length, .inl (cT 0, 12, .inl k_length)), (a_gate, .inl (cT 0, 12, .inl k_gate)), (a_across, .inl (cT 2, 12, .inl k_across)), (a_wide, .inl (cT 0, 12, .inl k_wide)), (a_high, .inl (cT 0, 12, .inl k_high)), (a_shape, .inl (cT 1, 12, .inr (.inl k_shape)))] H → va_D A [(a_t, .inr (0, [.int k_width, .int k_height, .int k_barges, .long k_walls, .long k_taken, .ref a_kind, .ref a_place, .ref a_length, .ref a_gate, .ref a_across, .ref a_wide, .ref a_high, .ref a_shape])), (a_kind, .inl (cT 0, 12, .inl k_kind)), (a_place, .inl (cT 0, 12, .inl k_place)), (a_length, .inl (cT 0, 12, .inl k_length)), (a_gate, .inl (cT 0, 12, .inl k_gate)), (a_across, .inl (cT 2, 12, .inl k_across)), (a_wide, .inl (cT 0, 12, .inl k_wide)), (a_high, .inl (cT 0, 12, .inl k_high)), (a_shape, .inl (cT 1, 12, .inr (.inl k_shape)))] → va_S A s.heap H locs → ∀ (ls : Array Slot), lv_has ls 4 [(0, .ref a_t), (3, .int v3)] → W p l e (headSpec wsX0_quarter rm_Chart_quarter).room s m args below meth c H locs 0 0 Q (F0 m 141 ls [.int s2, .int s1, .ref a_across]) := by
      intro v3 s1 s2 k_taken k_place k_gate k_across k_wide k_high k_shape hf H locs hP hD hS ls hl
      unfold f_Chart_quarter_J141 at hf
      replace hf := ob_grd hf
      obtain ⟨hi_31, hf⟩ := hf
      refine va_zast hx hb hK hP hD hS 5 2 rfl rfl hi_31 dX0_quarter_141 (fun H locs hP hD hS => ?_)
      replace hP : va_P D vwCl [(a_t, .inr (0, [.int k_width, .int k_height, .int k_barges, .long k_walls, .long k_taken, .ref a_kind, .ref a_place, .ref a_length, .ref a_gate, .ref a_across, .ref a_wide, .ref a_high, .ref a_shape])), (a_kind, .inl (cT 0, 12, .inl k_kind)), (a_place, .inl (cT 0, 12, .inl k_place)), (a_length, .inl (cT 0, 12, .inl k_length)), (a_gate, .inl (cT 0, 12, .inl k_gate)), (a_across, .inl (cT 2, 12, .inl (upd k_across s1.toNatClampNeg (vp_nar .boolean s2)))), (a_wide, .inl (cT 0, 12, .inl k_wide)), (a_high, .inl (cT 0, 12, .inl k_high)), (a_shape, .inl (cT 1, 12, .inr (.inl k_shape)))] H := hP
      replace hD : va_D A [(a_t, .inr (0, [.int k_width, .int k_height, .int k_barges, .long k_walls, .long k_taken, .ref a_kind, .ref a_place, .ref a_length, .ref a_gate, .ref a_across, .ref a_wide, .ref a_high, .ref a_shape])), (a_kind, .inl (cT 0, 12, .inl k_kind)), (a_place, .inl (cT 0, 12, .inl k_place)), (a_length, .inl (cT 0, 12, .inl k_length)), (a_gate, .inl (cT 0, 12, .inl k_gate)), (a_across, .inl (cT 2, 12, .inl (upd k_across s1.toNatClampNeg (vp_nar .boolean s2)))), (a_wide, .inl (cT 0, 12, .inl k_wide)), (a_high, .inl (cT 0, 12, .inl k_high)), (a_shape, .inl (cT 1, 12, .inr (.inl k_shape)))] := hD
      refine lv_aload_n hx hb dX0_quarter_142 rfl (lv_at hl 0 rfl) ?_
      refine lv_iload_n hx hb dX0_quarter_143 rfl (lv_at hl 1 rfl) ?_
      replace hf := ob_b hf
      obtain ⟨⟨k_wide_32, k_high_33, k_shape_34⟩, hc_35, hf⟩ := hf
      replace hf := ob_un3 hf
      have hPc := hP.sub (ws' := [(a_t, .inr (0, [.int k_width, .int k_height, .int k_barges, .long k_walls, .long k_taken, .ref a_kind, .ref a_place, .ref a_length, .ref a_gate, .ref a_across, .ref a_wide, .ref a_high, .ref a_shape])), (a_kind, .inl (cT 0, 12, .inl k_kind)), (a_length, .inl (cT 0, 12, .inl k_length)), (a_across, .inl (cT 2, 12, .inl (upd k_across s1.toNatClampNeg (vp_nar .boolean s2)))), (a_wide, .inl (cT 0, 12, .inl k_wide)), (a_high, .inl (cT 0, 12, .inl k_high)), (a_shape, .inl (cT 1, 12, .inr (.inl k_shape)))]) [0, 1, 3, 5, 6, 7, 8] rfl
      have hDc := hD.sub (ws' := [(a_t, .inr (0, [.int k_width, .int k_height, .int k_barges, .long k_walls, .long k_taken, .ref a_kind, .ref a_place, .ref a_length, .ref a_gate, .ref a_across, .ref a_wide, .ref a_high, .ref a_shape])), (a_kind, .inl (cT 0, 12, .inl k_kind)), (a_length, .inl (cT 0, 12, .inl k_length)), (a_across, .inl (cT 2, 12, .inl (upd k_across s1.toNatClampNeg (vp_nar .boolean s2)))), (a_wide, .inl (cT 0, 12, .inl k_wide)), (a_high, .inl (cT 0, 12, .inl k_high)), (a_shape, .inl (cT 1, 12, .inr (.inl k_shape)))]) [0, 1, 3, 5, 6, 7, 8] (by decide) rfl
      have hFc := va_free (wc := [(a_t, .inr (0, [.int k_width, .int k_height, .int k_barges, .long k_walls, .long k_taken, .ref a_kind, .ref a_place, .ref a_length, .ref a_gate, .ref a_across, .ref a_wide, .ref a_high, .ref a_shape])), (a_kind, .inl (cT 0, 12, .inl k_kind)), (a_length, .inl (cT 0, 12, .inl k_length)), (a_across, .inl (cT 2, 12, .inl (upd k_across s1.toNatClampNeg (vp_nar .boolean s2)))), (a_wide, .inl (cT 0, 12, .inl k_wide)), (a_high, .inl (cT 0, 12, .inl k_high)), (a_shape, .inl (cT 1, 12, .inr (.inl k_shape)))]) hD hS hA [0, 1, 3, 5, 6, 7, 8] rfl
      refine va_callv (va_runV (As := [.int v3]) (rest := []) ⟨hx, hb, hml, hown, hts⟩ (c_f_Chart_form l D cT H.size a_t a_kind a_place a_length a_gate a_across a_wide a_high a_shape k_width k_height k_barges k_walls k_taken k_kind k_length (upd k_across s1.toNatClampNeg (vp_nar .boolean s2)) k_wide k_high k_shape v3 _ _ _ hc_35) (cwV 1 hts gX0_quarter_X0_form rfl rfl rfl (by decide +kernel) ⟨Nat.le_of_ble_eq_true rfl, Nat.le_of_ble_eq_true rfl⟩) ⟨fun a U g mk q => by obtain ⟨q0, q1, qP, qK, qN, qD⟩ := q; exact ⟨q0, q1, qP, va_K.moved (u := U) (U := U.calling g mk a) (Vm.Alike.refl U.vm) qK, jNw_same (u := U) (U := U.calling g mk a) rfl qN, qD⟩, va_recv hK hP (ci := 0) (q0 := 0) rfl rfl, fun U hU hW => ⟨rfl, by rw [hU], by rw [hU]; exact hPc, va_K.moved hW.alike hK, jNw_warm hW hN, hDc.weaken (fun _ _ _ _ => trivial)⟩⟩ rfl rfl hl.1 rfl (lv_room (Nat.le_of_ble_eq_true rfl)) dX0_quarter_144 ⟨Nat.le_of_ble_eq_true rfl, Nat.le_of_ble_eq_true rfl⟩) hS (fun q _ h => hFc q h) hFc (fun u t H1 locs ht hvm er_36 hB hz1 hk1 hS => ?_)
      obtain ⟨hP1, hK1, hD1⟩ := hB
      rw [ht] at hP1
      have hPD := va_join (wr := [(a_place, .inl (cT 0, 12, .inl k_place)), (a_gate, .inl (cT 0, 12, .inl k_gate))]) (w1 := [(a_t, .inr (0, [.int k_width, .int k_height, .int k_barges, .long k_walls, .long k_taken, .ref a_kind, .ref a_place, .ref a_length, .ref a_gate, .ref a_across, .ref a_wide, .ref a_high, .ref a_shape])), (a_kind, .inl (cT 0, 12, .inl k_kind)), (a_length, .inl (cT 0, 12, .inl k_length)), (a_across, .inl (cT 2, 12, .inl (upd k_across s1.toNatClampNeg (vp_nar .boolean s2)))), (a_wide, .inl (cT 0, 12, .inl k_wide_32)), (a_high, .inl (cT 0, 12, .inl k_high_33)), (a_shape, .inl (cT 1, 12, .inr (.inl k_shape_34)))]) hP hD [0, 1, 3, 5, 6, 7, 8] [2, 4] rfl rfl (by decide) (by decide) hk1 hFc hP1 hD1
      clear hP hD
      obtain ⟨hP, hD⟩ := hPD
      replace hP := hP.sub (ws' := [(a_t, .inr (0, [.int k_width, .int k_height, .int k_barges, .long k_walls, .long k_taken, .ref a_kind, .ref a_place, .ref a_length, .ref a_gate, .ref a_across, .ref a_wide, .ref a_high, .ref a_shape])), (a_kind, .inl (cT 0, 12, .inl k_kind)), (a_place, .inl (cT 0, 12, .inl k_place)), (a_length, .inl (cT 0, 12, .inl k_length)), (a_gate, .inl (cT 0, 12, .inl k_gate)), (a_across, .inl (cT 2, 12, .inl (upd k_across s1.toNatClampNeg (vp_nar .boolean s2)))), (a_wide, .inl (cT 0, 12, .inl k_wide_32)), (a_high, .inl (cT 0, 12, .inl k_high_33)), (a_shape, .inl (cT 1, 12, .inr (.inl k_shape_34)))]) [2, 3, 0, 4, 1, 5, 6, 7, 8] rfl
      replace hD := hD.sub (ws' := [(a_t, .inr (0, [.int k_width, .int k_height, .int k_barges, .long k_walls, .long k_taken, .ref a_kind, .ref a_place, .ref a_length, .ref a_gate, .ref a_across, .ref a_wide, .ref a_high, .ref a_shape])), (a_kind, .inl (cT 0, 12, .inl k_kind)), (a_place, .inl (cT 0, 12, .inl k_place)), (a_length, .inl (cT 0, 12, .inl k_length)), (a_gate, .inl (cT 0, 12, .inl k_gate)), (a_across, .inl (cT 2, 12, .inl (upd k_across s1.toNatClampNeg (vp_nar .boolean s2)))), (a_wide, .inl (cT 0, 12, .inl k_wide_32)), (a_high, .inl (cT 0, 12, .inl k_high_33)), (a_shape, .inl (cT 1, 12, .inr (.inl k_shape_34)))]) [2, 3, 0, 4, 1, 5, 6, 7, 8] (by decide) rfl
      clear hPc hDc hFc hP1 hK1 hD1 hk1 hz1
      generalize H1 = H at hP hS ⊢
      refine lv_aload_n hx hb dX0_quarter_147 rfl (lv_at hl 0 rfl) ?_
      refine lv_dup hx hb dX0_quarter_148 rfl ?_
      refine va_get (D := D) (ci := 0) (v := .long k_taken) (C := RX0) (T := TX0) (N := 13) hx hb hts iw_wsX0_quarter_X0 hown hK hP 0 rfl rfl 4 (by decide) (hts (.fieldLink RX0 55 "BargeBasin$Chart" "taken" "J") (List.mem_of_getElem? (i := 2) (by decide +kernel))) (fun _ h9 => h9) rfl dX0_quarter_149 ?_
      refine lv_aload_n hx hb dX0_quarter_152 rfl (lv_at hl 0 rfl) ?_
      refine lv_iload_n hx hb dX0_quarter_153 rfl (lv_at hl 1 rfl) ?_
      replace hf := ob_b hf
      obtain ⟨zr_37, hc_38, hf⟩ := hf
      refine vp_callSl (W.runV (As := [.int v3]) (rest := [.long k_taken, .ref a_t]) ⟨hx, hb, hml, hown, hts⟩ (c_f_Chart_fieldsOf l D cT a_t a_kind a_place a_length a_gate a_across a_wide a_high a_shape k_width k_height k_barges k_walls k_taken k_place k_shape_34 v3 _ hc_38) (cwV 1 hts gX0_quarter_X0_fieldsOf rfl rfl rfl (by decide +kernel) ⟨Nat.le_of_ble_eq_true rfl, Nat.le_of_ble_eq_true rfl⟩) ⟨fun a U g mk q => by obtain ⟨q0, qP, qK, qN⟩ := q; exact ⟨q0, qP, va_K.moved (u := U) (U := U.calling g mk a) (Vm.Alike.refl U.vm) qK, jNw_same (u := U) (U := U.calling g mk a) rfl qN⟩, va_recv hK hP (ci := 0) (q0 := 0) rfl rfl, fun U hU hW => ⟨rfl, by rw [hU]; exact hP.sub [0, 2, 8] rfl, va_K.moved hW.alike hK, jNw_warm hW hN⟩⟩ rfl rfl hl.1 rfl (lv_room (Nat.le_of_ble_eq_true rfl)) dX0_quarter_154 ⟨Nat.le_of_ble_eq_true rfl, Nat.le_of_ble_eq_true rfl⟩) (fun r_37 er_39 => ?_)
      subst er_39
      refine lv_lor hx hb dX0_quarter_157 ?_
      refine lv_topl (fun w_40 ew_40 => ?_)
      replace hf := ob_nm ew_40 hf
      refine va_put (D := D) (ci := 0) (v := .long w_40) (ty := .long) (C := RX0) (T := TX0) (N := 13) hx hb hts iw_wsX0_quarter_X0 tyX0 tyX0_ok nmX0 hown hK hP hD hS 0 rfl rfl 4 (by decide) (hts (.fieldLink RX0 55 "BargeBasin$Chart" "taken" "J") (List.mem_of_getElem? (i := 2) (by decide +kernel))) (fun _ h9 => h9) rfl (by decide +kernel) rfl rfl (Nat.le_of_ble_eq_true rfl) dX0_quarter_158 (fun H locs hP hD hS => ?_)
      replace hP : va_P D vwCl [(a_t, .inr (0, [.int k_width, .int k_height, .int k_barges, .long k_walls, .long w_40, .ref a_kind, .ref a_place, .ref a_length, .ref a_gate, .ref a_across, .ref a_wide, .ref a_high, .ref a_shape])), (a_kind, .inl (cT 0, 12, .inl k_kind)), (a_place, .inl (cT 0, 12, .inl k_place)), (a_length, .inl (cT 0, 12, .inl k_length)), (a_gate, .inl (cT 0, 12, .inl k_gate)), (a_across, .inl (cT 2, 12, .inl (upd k_across s1.toNatClampNeg (vp_nar .boolean s2)))), (a_wide, .inl (cT 0, 12, .inl k_wide_32)), (a_high, .inl (cT 0, 12, .inl k_high_33)), (a_shape, .inl (cT 1, 12, .inr (.inl k_shape_34)))] H := hP
      replace hD : va_D A [(a_t, .inr (0, [.int k_width, .int k_height, .int k_barges, .long k_walls, .long w_40, .ref a_kind, .ref a_place, .ref a_length, .ref a_gate, .ref a_across, .ref a_wide, .ref a_high, .ref a_shape])), (a_kind, .inl (cT 0, 12, .inl k_kind)), (a_place, .inl (cT 0, 12, .inl k_place)), (a_length, .inl (cT 0, 12, .inl k_length)), (a_gate, .inl (cT 0, 12, .inl k_gate)), (a_across, .inl (cT 2, 12, .inl (upd k_across s1.toNatClampNeg (vp_nar .boolean s2)))), (a_wide, .inl (cT 0, 12, .inl k_wide_32)), (a_high, .inl (cT 0, 12, .inl k_high_33)), (a_shape, .inl (cT 1, 12, .inr (.inl k_shape_34)))] := hD
      obtain ⟨v3_41, ev3_41⟩ : ∃ y : Int32, y = v3 + 1 := ⟨_, rfl⟩
      replace hf := ob_nm ev3_41 hf
      refine lv_iinc (v := v3_41) (lv' := [(3, .int v3_41), (0, .ref a_t)]) hx hb dX0_quarter_161 hl (k := 1) rfl (by rw [ev3_41]; rfl) (by decide) rfl (fun ls hl => ?_)
      refine lv_goto (tgt := 58) hx hb dX0_quarter_164 (by decide) ?_
      exact ih _ _ _ _ _ _ _ _ ex hf _ _ hP hD hS ls (lv_sub hl [1, 0] rfl) K0
    have J140 : ∀ (v3 : Int32) (s1 : Int32) (k_taken : Int64) (k_place : Nat → Int32) (k_gate : Nat → Int32) (k_across : Nat → Int32) (k_wide : Nat → Int32) (k_high : Nat → Int32) (k_shape : Nat → Int64), f_Chart_quarter_J140 (f_Chart_quarter_L58 k_height k_barges k_kind k_length n) v3 s1 k_taken k_kind k_place k_length k_gate k_across k_wide k_high k_shape = some ex → ∀ (H : Heap) (locs : List Loc), va_P D vwCl [(a_t, .inr (0, [.int k_width, .int k_height, .int k_barges, .long k_walls, .long k_taken, .ref a_kind, .ref a_place, .ref a_length, .ref a_gate, .ref a_across, .ref a_wide, .ref a_high, .ref a_shape])), (a_kind, .inl (cT 0, 12, .inl k_kind)), (a_place, .inl (cT 0, 12, .inl k_place)), (a_length, .inl (cT 0, 12, .inl k_length)), (a_gate, .inl (cT 0, 12, .inl k_gate)), (a_across, .inl (cT 2, 12, .inl k_across)), (a_wide, .inl (cT 0, 12, .inl k_wide)), (a_high, .inl (cT 0, 12, .inl k_high)), (a_shape, .inl (cT 1, 12, .inr (.inl k_shape)))] H → va_D A [(a_t, .inr (0, [.int k_width, .int k_height, .int k_barges, .long k_walls, .long k_taken, .ref a_kind, .ref a_place, .ref a_length, .ref a_gate, .ref a_across, .ref a_wide, .ref a_high, .ref a_shape])), (a_kind, .inl (cT 0, 12, .inl k_kind)), (a_place, .inl (cT 0, 12, .inl k_place)), (a_length, .inl (cT 0, 12, .inl k_length)), (a_gate, .inl (cT 0, 12, .inl k_gate)), (a_across, .inl (cT 2, 12, .inl k_across)), (a_wide, .inl (cT 0, 12, .inl k_wide)), (a_high, .inl (cT 0, 12, .inl k_high)), (a_shape, .inl (cT 1, 12, .inr (.inl k_shape)))] → va_S A s.heap H locs → ∀ (ls : Array Slot), lv_has ls 4 [(0, .ref a_t), (3, .int v3)] → W p l e (headSpec wsX0_quarter rm_Chart_quarter).room s m args below meth c H locs 0 0 Q (F0 m 140 ls [.int s1, .ref a_across]) := by
      intro v3 s1 k_taken k_place k_gate k_across k_wide k_high k_shape hf H locs hP hD hS ls hl
      unfold f_Chart_quarter_J140 at hf
      refine lv_iconst (v := 0) hx hb dX0_quarter_140 (by decide) ?_
      exact J141 _ _ _ _ _ _ _ _ _ _ hf _ _ hP hD hS ls (lv_sub hl [0, 1] rfl)
    rw [f_Chart_quarter_L58] at hf
    refine lv_iload_n hx hb dX0_quarter_58 rfl (lv_at hl 1 rfl) ?_
    refine lv_aload_n hx hb dX0_quarter_59 rfl (lv_at hl 0 rfl) ?_
    refine va_get (D := D) (ci := 0) (v := .int k_barges) (C := RX0) (T := TX0) (N := 13) hx hb hts iw_wsX0_quarter_X0 hown hK hP 0 rfl rfl 2 (by decide) (hts (.fieldLink RX0 52 "BargeBasin$Chart" "barges" "I") (List.mem_of_getElem? (i := 3) (by decide +kernel))) (fun _ h9 => h9) rfl dX0_quarter_60 ?_
    refine lv_icmp_ge (tgt := 167) hx hb dX0_quarter_63 (by decide) (fun c_13 => ?_) (fun c_13 => ?_)
    · replace hf := ob_pos c_13 hf
      cases hf
      exact K0 _ _ _ _ _ _ _ rfl _ _ hP hD hS ls (lv_sub hl [0] rfl)
    · replace hf := ob_neg c_13 hf
      refine lv_aload_n hx hb dX0_quarter_66 rfl (lv_at hl 0 rfl) ?_
      refine va_get (D := D) (ci := 0) (v := .ref a_place) (C := RX0) (T := TX0) (N := 13) hx hb hts iw_wsX0_quarter_X0 hown hK hP 0 rfl rfl 6 (by decide) (hts (.fieldLink RX0 15 "BargeBasin$Chart" "place" "[I") (List.mem_of_getElem? (i := 4) (by decide +kernel))) (fun _ h9 => h9) rfl dX0_quarter_67 ?_
      refine lv_iload_n hx hb dX0_quarter_70 rfl (lv_at hl 1 rfl) ?_
      refine lv_aload_n hx hb dX0_quarter_71 rfl (lv_at hl 0 rfl) ?_
      refine lv_aload_n hx hb dX0_quarter_72 rfl (lv_at hl 0 rfl) ?_
      refine va_get (D := D) (ci := 0) (v := .ref a_place) (C := RX0) (T := TX0) (N := 13) hx hb hts iw_wsX0_quarter_X0 hown hK hP 0 rfl rfl 6 (by decide) (hts (.fieldLink RX0 15 "BargeBasin$Chart" "place" "[I") (List.mem_of_getElem? (i := 4) (by decide +kernel))) (fun _ h9 => h9) rfl dX0_quarter_73 ?_
      refine lv_iload_n hx hb dX0_quarter_76 rfl (lv_at hl 1 rfl) ?_
      replace hf := ob_grd hf
      obtain ⟨hi_14, hf⟩ := hf
      refine va_iald hx hb hK hP 2 0 rfl rfl hi_14 dX0_quarter_77 ?_
      refine lv_aload_n hx hb dX0_quarter_78 rfl (lv_at hl 0 rfl) ?_
      refine va_get (D := D) (ci := 0) (v := .ref a_high) (C := RX0) (T := TX0) (N := 13) hx hb hts iw_wsX0_quarter_X0 hown hK hP 0 rfl rfl 11 (by decide) (hts (.fieldLink RX0 31 "BargeBasin$Chart" "high" "[I") (List.mem_of_getElem? (i := 5) (by decide +kernel))) (fun _ h9 => h9) rfl dX0_quarter_79 ?_
      refine lv_iload_n hx hb dX0_quarter_82 rfl (lv_at hl 1 rfl) ?_
      replace hf := ob_grd hf
      obtain ⟨hi_15, hf⟩ := hf
      refine va_iald hx hb hK hP 7 0 rfl rfl hi_15 dX0_quarter_83 ?_
      replace hf := ob_b hf
      obtain ⟨zr_16, hc_17, hf⟩ := hf
      refine vp_callSi (W.runV (As := [.int (k_place v3.toNatClampNeg), .int (k_high v3.toNatClampNeg)]) (rest := [.int v3, .ref a_place]) ⟨hx, hb, hml, hown, hts⟩ (c_f_Chart_turned l D cT a_t a_kind a_place a_length a_gate a_across a_wide a_high a_shape k_width k_height k_barges k_walls k_taken (k_place v3.toNatClampNeg) (k_high v3.toNatClampNeg) _ hc_17) (cwV 2 hts gX0_quarter_X0_turned rfl rfl rfl (by decide +kernel) ⟨Nat.le_of_ble_eq_true rfl, Nat.le_of_ble_eq_true rfl⟩) ⟨fun a U g mk q => by obtain ⟨q0, qP, qK, qN⟩ := q; exact ⟨q0, qP, va_K.moved (u := U) (U := U.calling g mk a) (Vm.Alike.refl U.vm) qK, jNw_same (u := U) (U := U.calling g mk a) rfl qN⟩, va_recv hK hP (ci := 0) (q0 := 0) rfl rfl, fun U hU hW => ⟨rfl, by rw [hU]; exact hP.sub [0] rfl, va_K.moved hW.alike hK, jNw_warm hW hN⟩⟩ rfl rfl hl.1 rfl (lv_room (Nat.le_of_ble_eq_true rfl)) dX0_quarter_84 ⟨Nat.le_of_ble_eq_true rfl, Nat.le_of_ble_eq_true rfl⟩) (fun r_16 er_18 => ?_)
      subst er_18
      replace hf := ob_grd hf
      obtain ⟨hi_19, hf⟩ := hf
      refine va_iast hx hb hK hP hD hS 2 0 rfl rfl hi_19 dX0_quarter_87 (fun H locs hP hD hS => ?_)
      replace hP : va_P D vwCl [(a_t, .inr (0, [.int k_width, .int k_height, .int k_barges, .long k_walls, .long k_taken, .ref a_kind, .ref a_place, .ref a_length, .ref a_gate, .ref a_across, .ref a_wide, .ref a_high, .ref a_shape])), (a_kind, .inl (cT 0, 12, .inl k_kind)), (a_place, .inl (cT 0, 12, .inl (upd k_place v3.toNatClampNeg r_16))), (a_length, .inl (cT 0, 12, .inl k_length)), (a_gate, .inl (cT 0, 12, .inl k_gate)), (a_across, .inl (cT 2, 12, .inl k_across)), (a_wide, .inl (cT 0, 12, .inl k_wide)), (a_high, .inl (cT 0, 12, .inl k_high)), (a_shape, .inl (cT 1, 12, .inr (.inl k_shape)))] H := hP
      replace hD : va_D A [(a_t, .inr (0, [.int k_width, .int k_height, .int k_barges, .long k_walls, .long k_taken, .ref a_kind, .ref a_place, .ref a_length, .ref a_gate, .ref a_across, .ref a_wide, .ref a_high, .ref a_shape])), (a_kind, .inl (cT 0, 12, .inl k_kind)), (a_place, .inl (cT 0, 12, .inl (upd k_place v3.toNatClampNeg r_16))), (a_length, .inl (cT 0, 12, .inl k_length)), (a_gate, .inl (cT 0, 12, .inl k_gate)), (a_across, .inl (cT 2, 12, .inl k_across)), (a_wide, .inl (cT 0, 12, .inl k_wide)), (a_high, .inl (cT 0, 12, .inl k_high)), (a_shape, .inl (cT 1, 12, .inr (.inl k_shape)))] := hD
      refine lv_aload_n hx hb dX0_quarter_88 rfl (lv_at hl 0 rfl) ?_
      refine va_get (D := D) (ci := 0) (v := .ref a_gate) (C := RX0) (T := TX0) (N := 13) hx hb hts iw_wsX0_quarter_X0 hown hK hP 0 rfl rfl 8 (by decide) (hts (.fieldLink RX0 21 "BargeBasin$Chart" "gate" "[I") (List.mem_of_getElem? (i := 6) (by decide +kernel))) (fun _ h9 => h9) rfl dX0_quarter_89 ?_
      refine lv_iload_n hx hb dX0_quarter_92 rfl (lv_at hl 1 rfl) ?_
      refine lv_aload_n hx hb dX0_quarter_93 rfl (lv_at hl 0 rfl) ?_
      refine lv_aload_n hx hb dX0_quarter_94 rfl (lv_at hl 0 rfl) ?_
      refine va_get (D := D) (ci := 0) (v := .ref a_gate) (C := RX0) (T := TX0) (N := 13) hx hb hts iw_wsX0_quarter_X0 hown hK hP 0 rfl rfl 8 (by decide) (hts (.fieldLink RX0 21 "BargeBasin$Chart" "gate" "[I") (List.mem_of_getElem? (i := 6) (by decide +kernel))) (fun _ h9 => h9) rfl dX0_quarter_95 ?_
      refine lv_iload_n hx hb dX0_quarter_98 rfl (lv_at hl 1 rfl) ?_
      replace hf := ob_grd hf
      obtain ⟨hi_20, hf⟩ := hf
      refine va_iald hx hb hK hP 4 0 rfl rfl hi_20 dX0_quarter_99 ?_
      refine lv_aload_n hx hb dX0_quarter_100 rfl (lv_at hl 0 rfl) ?_
      refine va_get (D := D) (ci := 0) (v := .ref a_high) (C := RX0) (T := TX0) (N := 13) hx hb hts iw_wsX0_quarter_X0 hown hK hP 0 rfl rfl 11 (by decide) (hts (.fieldLink RX0 31 "BargeBasin$Chart" "high" "[I") (List.mem_of_getElem? (i := 5) (by decide +kernel))) (fun _ h9 => h9) rfl dX0_quarter_101 ?_
      refine lv_iload_n hx hb dX0_quarter_104 rfl (lv_at hl 1 rfl) ?_
      replace hf := ob_grd hf
      obtain ⟨hi_21, hf⟩ := hf
      refine va_iald hx hb hK hP 7 0 rfl rfl hi_21 dX0_quarter_105 ?_
      replace hf := ob_b hf
      obtain ⟨zr_22, hc_23, hf⟩ := hf
      refine vp_callSi (W.runV (As := [.int (k_gate v3.toNatClampNeg), .int (k_high v3.toNatClampNeg)]) (rest := [.int v3, .ref a_gate]) ⟨hx, hb, hml, hown, hts⟩ (c_f_Chart_turned l D cT a_t a_kind a_place a_length a_gate a_across a_wide a_high a_shape k_width k_height k_barges k_walls k_taken (k_gate v3.toNatClampNeg) (k_high v3.toNatClampNeg) _ hc_23) (cwV 2 hts gX0_quarter_X0_turned rfl rfl rfl (by decide +kernel) ⟨Nat.le_of_ble_eq_true rfl, Nat.le_of_ble_eq_true rfl⟩) ⟨fun a U g mk q => by obtain ⟨q0, qP, qK, qN⟩ := q; exact ⟨q0, qP, va_K.moved (u := U) (U := U.calling g mk a) (Vm.Alike.refl U.vm) qK, jNw_same (u := U) (U := U.calling g mk a) rfl qN⟩, va_recv hK hP (ci := 0) (q0 := 0) rfl rfl, fun U hU hW => ⟨rfl, by rw [hU]; exact hP.sub [0] rfl, va_K.moved hW.alike hK, jNw_warm hW hN⟩⟩ rfl rfl hl.1 rfl (lv_room (Nat.le_of_ble_eq_true rfl)) dX0_quarter_106 ⟨Nat.le_of_ble_eq_true rfl, Nat.le_of_ble_eq_true rfl⟩) (fun r_22 er_24 => ?_)
      subst er_24
      replace hf := ob_grd hf
      obtain ⟨hi_25, hf⟩ := hf
      refine va_iast hx hb hK hP hD hS 4 0 rfl rfl hi_25 dX0_quarter_109 (fun H locs hP hD hS => ?_)
      replace hP : va_P D vwCl [(a_t, .inr (0, [.int k_width, .int k_height, .int k_barges, .long k_walls, .long k_taken, .ref a_kind, .ref a_place, .ref a_length, .ref a_gate, .ref a_across, .ref a_wide, .ref a_high, .ref a_shape])), (a_kind, .inl (cT 0, 12, .inl k_kind)), (a_place, .inl (cT 0, 12, .inl (upd k_place v3.toNatClampNeg r_16))), (a_length, .inl (cT 0, 12, .inl k_length)), (a_gate, .inl (cT 0, 12, .inl (upd k_gate v3.toNatClampNeg r_22))), (a_across, .inl (cT 2, 12, .inl k_across)), (a_wide, .inl (cT 0, 12, .inl k_wide)), (a_high, .inl (cT 0, 12, .inl k_high)), (a_shape, .inl (cT 1, 12, .inr (.inl k_shape)))] H := hP
      replace hD : va_D A [(a_t, .inr (0, [.int k_width, .int k_height, .int k_barges, .long k_walls, .long k_taken, .ref a_kind, .ref a_place, .ref a_length, .ref a_gate, .ref a_across, .ref a_wide, .ref a_high, .ref a_shape])), (a_kind, .inl (cT 0, 12, .inl k_kind)), (a_place, .inl (cT 0, 12, .inl (upd k_place v3.toNatClampNeg r_16))), (a_length, .inl (cT 0, 12, .inl k_length)), (a_gate, .inl (cT 0, 12, .inl (upd k_gate v3.toNatClampNeg r_22))), (a_across, .inl (cT 2, 12, .inl k_across)), (a_wide, .inl (cT 0, 12, .inl k_wide)), (a_high, .inl (cT 0, 12, .inl k_high)), (a_shape, .inl (cT 1, 12, .inr (.inl k_shape)))] := hD
      refine lv_aload_n hx hb dX0_quarter_110 rfl (lv_at hl 0 rfl) ?_
      refine va_get (D := D) (ci := 0) (v := .ref a_across) (C := RX0) (T := TX0) (N := 13) hx hb hts iw_wsX0_quarter_X0 hown hK hP 0 rfl rfl 9 (by decide) (hts (.fieldLink RX0 24 "BargeBasin$Chart" "across" "[Z") (List.mem_of_getElem? (i := 7) (by decide +kernel))) (fun _ h9 => h9) rfl dX0_quarter_111 ?_
      refine lv_iload_n hx hb dX0_quarter_114 rfl (lv_at hl 1 rfl) ?_
      refine lv_aload_n hx hb dX0_quarter_115 rfl (lv_at hl 0 rfl) ?_
      refine va_get (D := D) (ci := 0) (v := .ref a_kind) (C := RX0) (T := TX0) (N := 13) hx hb hts iw_wsX0_quarter_X0 hown hK hP 0 rfl rfl 5 (by decide) (hts (.fieldLink RX0 9 "BargeBasin$Chart" "kind" "[I") (List.mem_of_getElem? (i := 8) (by decide +kernel))) (fun _ h9 => h9) rfl dX0_quarter_116 ?_
      refine lv_iload_n hx hb dX0_quarter_119 rfl (lv_at hl 1 rfl) ?_
      replace hf := ob_grd hf
      obtain ⟨hi_26, hf⟩ := hf
      refine va_iald hx hb hK hP 1 0 rfl rfl hi_26 dX0_quarter_120 ?_
      replace hf := ob_b hf
      obtain ⟨zr_27, hc_28, hf⟩ := hf
      refine vp_callSi (j_run (va_runSN (As := [.int (k_kind v3.toNatClampNeg)]) (rest := [.int v3, .ref a_across]) ⟨hx, hb, hml, hown, hts⟩ (c_f_BargeBasin_isBound l D cT (k_kind v3.toNatClampNeg) _ hc_28) ⟨va_cnB 1 hts gX0_quarter_X6_isBound_n105 rfl rfl rfl (hN.1 (.methodLinkNest RX0 105 yX6_isBound "BargeBasin") (List.mem_of_getElem? (i := 1) (by decide +kernel))) (hts (.initialized RX6) (List.mem_of_getElem? (i := 17) (by decide +kernel))) (by decide +kernel) ⟨Nat.le_of_ble_eq_true rfl, Nat.le_of_ble_eq_true rfl⟩, (hts (.static yX6_isBound) (List.mem_of_getElem? (i := 16) (by decide +kernel))), trivial⟩ ⟨fun a U g mk q => q, fun U hU hW => ⟨rfl, trivial⟩⟩ rfl rfl hl.1 rfl (lv_room (Nat.le_of_ble_eq_true rfl)) dX0_quarter_121 ⟨Nat.le_of_ble_eq_true rfl, Nat.le_of_ble_eq_true rfl⟩)) (fun r_27 er_29 => ?_)
      subst er_29
      refine lv_if_eq (tgt := 140) hx hb dX0_quarter_124 (by decide) (fun c_30 => ?_) (fun c_30 => ?_)
      · replace hf := ob_pos c_30 hf
        exact J140 _ _ _ _ _ _ _ _ _ hf _ _ hP hD hS ls (lv_sub hl [0, 1] rfl)
      · replace hf := ob_neg c_30 hf
        refine lv_aload_n hx hb dX0_quarter_127 rfl (lv_at hl 0 rfl) ?_
        refine va_get (D := D) (ci := 0) (v := .ref a_across) (C := RX0) (T := TX0) (N := 13) hx hb hts iw_wsX0_quarter_X0 hown hK hP 0 rfl rfl 9 (by decide) (hts (.fieldLink RX0 24 "BargeBasin$Chart" "across" "[Z") (List.mem_of_getElem? (i := 7) (by decide +kernel))) (fun _ h9 => h9) rfl dX0_quarter_128 ?_
        refine lv_iload_n hx hb dX0_quarter_131 rfl (lv_at hl 1 rfl) ?_
        replace hf := ob_grd hf
        obtain ⟨hi_42, hf⟩ := hf
        refine va_zald hx hb hK hP 5 2 rfl rfl hi_42 dX0_quarter_132 ?_
        refine lv_if_ne (tgt := 140) hx hb dX0_quarter_133 (by decide) (fun c_43 => ?_) (fun c_43 => ?_)
        · replace hf := ob_neg c_43 hf
          exact J140 _ _ _ _ _ _ _ _ _ hf _ _ hP hD hS ls (lv_sub hl [0, 1] rfl)
        · replace hf := ob_pos c_43 hf
          refine lv_iconst (v := 1) hx hb dX0_quarter_136 (by decide) ?_
          refine lv_goto (tgt := 141) hx hb dX0_quarter_137 (by decide) ?_
          exact J141 _ _ _ _ _ _ _ _ _ _ hf _ _ hP hD hS ls (lv_sub hl [0, 1] rfl)
set_option maxHeartbeats 4000000 in
set_option maxRecDepth 100000 in
theorem c_f_Chart_quarter (l : Launch) (D : va_G) (cT : Nat → ClassId) (sz : Nat) (a_t a_kind a_place a_length a_gate a_across a_wide a_high a_shape : Nat) (k_width : Int32) (k_height : Int32) (k_barges : Int32) (k_walls : Int64) (k_taken : Int64) (k_kind : Nat → Int32) (k_place : Nat → Int32) (k_length : Nat → Int32) (k_gate : Nat → Int32) (k_across : Nat → Int32) (k_wide : Nat → Int32) (k_high : Nat → Int32) (k_shape : Nat → Int64) (k_width₉ : Int32) (k_height₉ : Int32) (k_walls₉ : Int64) (k_taken₉ : Int64) (k_place₉ : Nat → Int32) (k_gate₉ : Nat → Int32) (k_across₉ : Nat → Int32) (k_wide₉ : Nat → Int32) (k_high₉ : Nat → Int32) (k_shape₉ : Nat → Int64) (hf : f_Chart_quarter k_width k_height k_barges k_walls k_taken k_kind k_place k_length k_gate k_across k_wide k_high k_shape = some (k_width₉, k_height₉, k_walls₉, k_taken₉, k_place₉, k_gate₉, k_across₉, k_wide₉, k_high₉, k_shape₉)) : Met l yX0_quarter wsX0_quarter rm_Chart_quarter (va_Pc [.ref a_t] (fun U => U.heap.size = sz ∧ va_P D vwCl [(a_t, .inr (0, [.int k_width, .int k_height, .int k_barges, .long k_walls, .long k_taken, .ref a_kind, .ref a_place, .ref a_length, .ref a_gate, .ref a_across, .ref a_wide, .ref a_high, .ref a_shape])), (a_kind, .inl (cT 0, 12, .inl k_kind)), (a_place, .inl (cT 0, 12, .inl k_place)), (a_length, .inl (cT 0, 12, .inl k_length)), (a_gate, .inl (cT 0, 12, .inl k_gate)), (a_across, .inl (cT 2, 12, .inl k_across)), (a_wide, .inl (cT 0, 12, .inl k_wide)), (a_high, .inl (cT 0, 12, .inl k_high)), (a_shape, .inl (cT 1, 12, .inr (.inl k_shape)))] U.heap ∧ va_K D vwCl (jT cT) U ∧ jNw U ∧ va_D (fun _ => True) [(a_t, .inr (0, [.int k_width, .int k_height, .int k_barges, .long k_walls, .long k_taken, .ref a_kind, .ref a_place, .ref a_length, .ref a_gate, .ref a_across, .ref a_wide, .ref a_high, .ref a_shape])), (a_kind, .inl (cT 0, 12, .inl k_kind)), (a_place, .inl (cT 0, 12, .inl k_place)), (a_length, .inl (cT 0, 12, .inl k_length)), (a_gate, .inl (cT 0, 12, .inl k_gate)), (a_across, .inl (cT 2, 12, .inl k_across)), (a_wide, .inl (cT 0, 12, .inl k_wide)), (a_high, .inl (cT 0, 12, .inl k_high)), (a_shape, .inl (cT 1, 12, .inr (.inl k_shape)))])) (va_Qv (fun _ : Unit => True) (fun (_ : Unit) t => va_P D vwCl [(a_t, .inr (0, [.int k_width₉, .int k_height₉, .int k_barges, .long k_walls₉, .long k_taken₉, .ref a_kind, .ref a_place, .ref a_length, .ref a_gate, .ref a_across, .ref a_wide, .ref a_high, .ref a_shape])), (a_kind, .inl (cT 0, 12, .inl k_kind)), (a_place, .inl (cT 0, 12, .inl k_place₉)), (a_length, .inl (cT 0, 12, .inl k_length)), (a_gate, .inl (cT 0, 12, .inl k_gate₉)), (a_across, .inl (cT 2, 12, .inl k_across₉)), (a_wide, .inl (cT 0, 12, .inl k_wide₉)), (a_high, .inl (cT 0, 12, .inl k_high₉)), (a_shape, .inl (cT 1, 12, .inr (.inl k_shape₉)))] t.heap ∧ va_K D vwCl (jT cT) t ∧ va_D (va_A [(a_t, .inr (0, [.int k_width, .int k_height, .int k_barges, .long k_walls, .long k_taken, .ref a_kind, .ref a_place, .ref a_length, .ref a_gate, .ref a_across, .ref a_wide, .ref a_high, .ref a_shape])), (a_kind, .inl (cT 0, 12, .inl k_kind)), (a_place, .inl (cT 0, 12, .inl k_place)), (a_length, .inl (cT 0, 12, .inl k_length)), (a_gate, .inl (cT 0, 12, .inl k_gate)), (a_across, .inl (cT 2, 12, .inl k_across)), (a_wide, .inl (cT 0, 12, .inl k_wide)), (a_high, .inl (cT 0, 12, .inl k_high)), (a_shape, .inl (cT 1, 12, .inr (.inl k_shape)))] sz) [(a_t, .inr (0, [.int k_width₉, .int k_height₉, .int k_barges, .long k_walls₉, .long k_taken₉, .ref a_kind, .ref a_place, .ref a_length, .ref a_gate, .ref a_across, .ref a_wide, .ref a_high, .ref a_shape])), (a_kind, .inl (cT 0, 12, .inl k_kind)), (a_place, .inl (cT 0, 12, .inl k_place₉)), (a_length, .inl (cT 0, 12, .inl k_length)), (a_gate, .inl (cT 0, 12, .inl k_gate₉)), (a_across, .inl (cT 2, 12, .inl k_across₉)), (a_wide, .inl (cT 0, 12, .inl k_wide₉)), (a_high, .inl (cT 0, 12, .inl k_high₉)), (a_shape, .inl (cT 1, 12, .inr (.inl k_shape₉)))]) (va_A [(a_t, .inr (0, [.int k_width, .int k_height, .int k_barges, .long k_walls, .long k_taken, .ref a_kind, .ref a_place, .ref a_length, .ref a_gate, .ref a_across, .ref a_wide, .ref a_high, .ref a_shape])), (a_kind, .inl (cT 0, 12, .inl k_kind)), (a_place, .inl (cT 0, 12, .inl k_place)), (a_length, .inl (cT 0, 12, .inl k_length)), (a_gate, .inl (cT 0, 12, .inl k_gate)), (a_across, .inl (cT 2, 12, .inl k_across)), (a_wide, .inl (cT 0, 12, .inl k_wide)), (a_high, .inl (cT 0, 12, .inl k_high)), (a_shape, .inl (cT 1, 12, .inr (.inl k_shape)))] sz)) 0 0 (va_A [(a_t, .inr (0, [.int k_width, .int k_height, .int k_barges, .long k_walls, .long k_taken, .ref a_kind, .ref a_place, .ref a_length, .ref a_gate, .ref a_across, .ref a_wide, .ref a_high, .ref a_shape])), (a_kind, .inl (cT 0, 12, .inl k_kind)), (a_place, .inl (cT 0, 12, .inl k_place)), (a_length, .inl (cT 0, 12, .inl k_length)), (a_gate, .inl (cT 0, 12, .inl k_gate)), (a_across, .inl (cT 2, 12, .inl k_across)), (a_wide, .inl (cT 0, 12, .inl k_wide)), (a_high, .inl (cT 0, 12, .inl k_high)), (a_shape, .inl (cT 1, 12, .inr (.inl k_shape)))] sz) := by
  refine Met.ofW (cc := cX0_quarter) (maxL := 4) (ret := none) (by decide) rfl ?_
  intro p e s m args below meth c s₁ B hml hv
  obtain ⟨rfl, hsz, hP, hK, hN, hD0⟩ := hv
  have hx := B.exec
  have hb := B.bytes
  have hr := B.returns
  have hts := atoms_spec (ws := wsX0_quarter) B.pre
  have hown : s.vm.findClass RX0 = some m.cls := findClass_of_methodNamed B.named
  have hlocks := B.notSynchronized
  subst hsz
  have hD := hD0.self (sz := s.heap.size)
  clear hD0
  generalize hAe : va_A [(a_t, .inr (0, [.int k_width, .int k_height, .int k_barges, .long k_walls, .long k_taken, .ref a_kind, .ref a_place, .ref a_length, .ref a_gate, .ref a_across, .ref a_wide, .ref a_high, .ref a_shape])), (a_kind, .inl (cT 0, 12, .inl k_kind)), (a_place, .inl (cT 0, 12, .inl k_place)), (a_length, .inl (cT 0, 12, .inl k_length)), (a_gate, .inl (cT 0, 12, .inl k_gate)), (a_across, .inl (cT 2, 12, .inl k_across)), (a_wide, .inl (cT 0, 12, .inl k_wide)), (a_high, .inl (cT 0, 12, .inl k_high)), (a_shape, .inl (cT 1, 12, .inr (.inl k_shape)))] s.heap.size = A at hD ⊢
  have hA : ∀ q : Nat, s.heap.size ≤ q → A q := fun q h => by rw [← hAe]; exact Or.inr h
  clear hAe
  have hl := lv_entry ([.ref a_t]) (n := 4) (Nat.le_of_ble_eq_true rfl)
  rw [lg_entry_eq]
  generalize (lg_sl ([.ref a_t]) ++ List.replicate (4 - (lg_sl ([.ref a_t])).length) Slot.unset).toArray = ls at hl ⊢
  have hl : lv_has ls 4 [(0, .ref a_t)] := hl
  refine j_start (A := A) hP (fun H locs hP hS => ?_)
  unfold f_Chart_quarter at hf
  refine lv_aload_n hx hb dX0_quarter_0 rfl (lv_at hl 0 rfl) ?_
  refine va_get (D := D) (ci := 0) (v := .long k_walls) (C := RX0) (T := TX0) (N := 13) hx hb hts iw_wsX0_quarter_X0 hown hK hP 0 rfl rfl 3 (by decide) (hts (.fieldLink RX0 45 "BargeBasin$Chart" "walls" "J") (List.mem_of_getElem? (i := 1) (by decide +kernel))) (fun _ h9 => h9) rfl dX0_quarter_1 ?_
  refine lv_lstore_n (lv' := [(1, .long k_walls), (0, .ref a_t)]) hx hb dX0_quarter_4 rfl hl (by decide) rfl (fun ls hl => ?_)
  refine lv_aload_n hx hb dX0_quarter_5 rfl (lv_at hl 1 rfl) ?_
  refine lv_lconst (v := 0) hx hb dX0_quarter_6 (by decide) ?_
  refine va_put (D := D) (ci := 0) (v := .long ((0 : Int64))) (ty := .long) (C := RX0) (T := TX0) (N := 13) hx hb hts iw_wsX0_quarter_X0 tyX0 tyX0_ok nmX0 hown hK hP hD hS 0 rfl rfl 3 (by decide) (hts (.fieldLink RX0 45 "BargeBasin$Chart" "walls" "J") (List.mem_of_getElem? (i := 1) (by decide +kernel))) (fun _ h9 => h9) rfl (by decide +kernel) rfl rfl (Nat.le_of_ble_eq_true rfl) dX0_quarter_7 (fun H locs hP hD hS => ?_)
  replace hP : va_P D vwCl [(a_t, .inr (0, [.int k_width, .int k_height, .int k_barges, .long ((0 : Int64)), .long k_taken, .ref a_kind, .ref a_place, .ref a_length, .ref a_gate, .ref a_across, .ref a_wide, .ref a_high, .ref a_shape])), (a_kind, .inl (cT 0, 12, .inl k_kind)), (a_place, .inl (cT 0, 12, .inl k_place)), (a_length, .inl (cT 0, 12, .inl k_length)), (a_gate, .inl (cT 0, 12, .inl k_gate)), (a_across, .inl (cT 2, 12, .inl k_across)), (a_wide, .inl (cT 0, 12, .inl k_wide)), (a_high, .inl (cT 0, 12, .inl k_high)), (a_shape, .inl (cT 1, 12, .inr (.inl k_shape)))] H := hP
  replace hD : va_D A [(a_t, .inr (0, [.int k_width, .int k_height, .int k_barges, .long ((0 : Int64)), .long k_taken, .ref a_kind, .ref a_place, .ref a_length, .ref a_gate, .ref a_across, .ref a_wide, .ref a_high, .ref a_shape])), (a_kind, .inl (cT 0, 12, .inl k_kind)), (a_place, .inl (cT 0, 12, .inl k_place)), (a_length, .inl (cT 0, 12, .inl k_length)), (a_gate, .inl (cT 0, 12, .inl k_gate)), (a_across, .inl (cT 2, 12, .inl k_across)), (a_wide, .inl (cT 0, 12, .inl k_wide)), (a_high, .inl (cT 0, 12, .inl k_high)), (a_shape, .inl (cT 1, 12, .inr (.inl k_shape)))] := hD
  refine lv_iconst (v := 0) hx hb dX0_quarter_10 (by decide) ?_
  refine lv_istore_n (lv' := [(3, .int ((0 : Int32))), (1, .long k_walls), (0, .ref a_t)]) hx hb dX0_quarter_11 rfl hl (by decide) rfl (fun ls hl => ?_)
  replace hf := ob_b hf
  obtain ⟨ex_10, hq_11, hf⟩ := hf
  refine l_f_Chart_quarter_L12 hx hb hml hown hts hK hN hA jN _ _ ex_10 hq_11 _ _ hP hD hS ls (lv_sub hl [2, 1, 0] rfl) (fun k_walls_12 ee_61 H locs hP hD hS ls hl => ?_)
  have ee_61 := ee_61.symm
  subst ee_61
  refine lv_aload_n hx hb dX0_quarter_51 rfl (lv_at hl 0 rfl) ?_
  refine lv_lconst (v := 0) hx hb dX0_quarter_52 (by decide) ?_
  refine va_put (D := D) (ci := 0) (v := .long ((0 : Int64))) (ty := .long) (C := RX0) (T := TX0) (N := 13) hx hb hts iw_wsX0_quarter_X0 tyX0 tyX0_ok nmX0 hown hK hP hD hS 0 rfl rfl 4 (by decide) (hts (.fieldLink RX0 55 "BargeBasin$Chart" "taken" "J") (List.mem_of_getElem? (i := 2) (by decide +kernel))) (fun _ h9 => h9) rfl (by decide +kernel) rfl rfl (Nat.le_of_ble_eq_true rfl) dX0_quarter_53 (fun H locs hP hD hS => ?_)
  replace hP : va_P D vwCl [(a_t, .inr (0, [.int k_width, .int k_height, .int k_barges, .long k_walls_12, .long ((0 : Int64)), .ref a_kind, .ref a_place, .ref a_length, .ref a_gate, .ref a_across, .ref a_wide, .ref a_high, .ref a_shape])), (a_kind, .inl (cT 0, 12, .inl k_kind)), (a_place, .inl (cT 0, 12, .inl k_place)), (a_length, .inl (cT 0, 12, .inl k_length)), (a_gate, .inl (cT 0, 12, .inl k_gate)), (a_across, .inl (cT 2, 12, .inl k_across)), (a_wide, .inl (cT 0, 12, .inl k_wide)), (a_high, .inl (cT 0, 12, .inl k_high)), (a_shape, .inl (cT 1, 12, .inr (.inl k_shape)))] H := hP
  replace hD : va_D A [(a_t, .inr (0, [.int k_width, .int k_height, .int k_barges, .long k_walls_12, .long ((0 : Int64)), .ref a_kind, .ref a_place, .ref a_length, .ref a_gate, .ref a_across, .ref a_wide, .ref a_high, .ref a_shape])), (a_kind, .inl (cT 0, 12, .inl k_kind)), (a_place, .inl (cT 0, 12, .inl k_place)), (a_length, .inl (cT 0, 12, .inl k_length)), (a_gate, .inl (cT 0, 12, .inl k_gate)), (a_across, .inl (cT 2, 12, .inl k_across)), (a_wide, .inl (cT 0, 12, .inl k_wide)), (a_high, .inl (cT 0, 12, .inl k_high)), (a_shape, .inl (cT 1, 12, .inr (.inl k_shape)))] := hD
  refine lv_iconst (v := 0) hx hb dX0_quarter_56 (by decide) ?_
  refine lv_istore_n (lv' := [(3, .int ((0 : Int32))), (0, .ref a_t)]) hx hb dX0_quarter_57 rfl hl (by decide) rfl (fun ls hl => ?_)
  replace hf := ob_b hf
  obtain ⟨ex_51, hq_52, hf⟩ := hf
  refine l_f_Chart_quarter_L58 hx hb hml hown hts hK hN hA jN _ _ _ _ _ _ _ _ ex_51 hq_52 _ _ hP hD hS ls (lv_sub hl [1, 0] rfl) (fun k_taken_53 k_place_54 k_gate_55 k_across_56 k_wide_57 k_high_58 k_shape_59 ee_60 H locs hP hD hS ls hl => ?_)
  subst ee_60
  replace hf := ob_un7 hf
  refine lv_aload_n hx hb dX0_quarter_167 rfl (lv_at hl 0 rfl) ?_
  refine va_get (D := D) (ci := 0) (v := .int k_width) (C := RX0) (T := TX0) (N := 13) hx hb hts iw_wsX0_quarter_X0 hown hK hP 0 rfl rfl 0 (by decide) (hts (.fieldLink RX0 38 "BargeBasin$Chart" "width" "I") (List.mem_of_getElem? (i := 9) (by decide +kernel))) (fun _ h9 => h9) rfl dX0_quarter_168 ?_
  refine lv_istore_n (lv' := [(3, .int k_width), (0, .ref a_t)]) hx hb dX0_quarter_171 rfl hl (by decide) rfl (fun ls hl => ?_)
  refine lv_aload_n hx hb dX0_quarter_172 rfl (lv_at hl 1 rfl) ?_
  refine lv_aload_n hx hb dX0_quarter_173 rfl (lv_at hl 1 rfl) ?_
  refine va_get (D := D) (ci := 0) (v := .int k_height) (C := RX0) (T := TX0) (N := 13) hx hb hts iw_wsX0_quarter_X0 hown hK hP 0 rfl rfl 1 (by decide) (hts (.fieldLink RX0 42 "BargeBasin$Chart" "height" "I") (List.mem_of_getElem? (i := 10) (by decide +kernel))) (fun _ h9 => h9) rfl dX0_quarter_174 ?_
  refine va_put (D := D) (ci := 0) (v := .int k_height) (ty := .int) (C := RX0) (T := TX0) (N := 13) hx hb hts iw_wsX0_quarter_X0 tyX0 tyX0_ok nmX0 hown hK hP hD hS 0 rfl rfl 0 (by decide) (hts (.fieldLink RX0 38 "BargeBasin$Chart" "width" "I") (List.mem_of_getElem? (i := 9) (by decide +kernel))) (fun _ h9 => h9) rfl (by decide +kernel) rfl rfl (Nat.le_of_ble_eq_true rfl) dX0_quarter_177 (fun H locs hP hD hS => ?_)
  replace hP : va_P D vwCl [(a_t, .inr (0, [.int k_height, .int k_height, .int k_barges, .long k_walls_12, .long k_taken_53, .ref a_kind, .ref a_place, .ref a_length, .ref a_gate, .ref a_across, .ref a_wide, .ref a_high, .ref a_shape])), (a_kind, .inl (cT 0, 12, .inl k_kind)), (a_place, .inl (cT 0, 12, .inl k_place_54)), (a_length, .inl (cT 0, 12, .inl k_length)), (a_gate, .inl (cT 0, 12, .inl k_gate_55)), (a_across, .inl (cT 2, 12, .inl k_across_56)), (a_wide, .inl (cT 0, 12, .inl k_wide_57)), (a_high, .inl (cT 0, 12, .inl k_high_58)), (a_shape, .inl (cT 1, 12, .inr (.inl k_shape_59)))] H := hP
  replace hD : va_D A [(a_t, .inr (0, [.int k_height, .int k_height, .int k_barges, .long k_walls_12, .long k_taken_53, .ref a_kind, .ref a_place, .ref a_length, .ref a_gate, .ref a_across, .ref a_wide, .ref a_high, .ref a_shape])), (a_kind, .inl (cT 0, 12, .inl k_kind)), (a_place, .inl (cT 0, 12, .inl k_place_54)), (a_length, .inl (cT 0, 12, .inl k_length)), (a_gate, .inl (cT 0, 12, .inl k_gate_55)), (a_across, .inl (cT 2, 12, .inl k_across_56)), (a_wide, .inl (cT 0, 12, .inl k_wide_57)), (a_high, .inl (cT 0, 12, .inl k_high_58)), (a_shape, .inl (cT 1, 12, .inr (.inl k_shape_59)))] := hD
  refine lv_aload_n hx hb dX0_quarter_180 rfl (lv_at hl 1 rfl) ?_
  refine lv_iload_n hx hb dX0_quarter_181 rfl (lv_at hl 0 rfl) ?_
  refine va_put (D := D) (ci := 0) (v := .int k_width) (ty := .int) (C := RX0) (T := TX0) (N := 13) hx hb hts iw_wsX0_quarter_X0 tyX0 tyX0_ok nmX0 hown hK hP hD hS 0 rfl rfl 1 (by decide) (hts (.fieldLink RX0 42 "BargeBasin$Chart" "height" "I") (List.mem_of_getElem? (i := 10) (by decide +kernel))) (fun _ h9 => h9) rfl (by decide +kernel) rfl rfl (Nat.le_of_ble_eq_true rfl) dX0_quarter_182 (fun H locs hP hD hS => ?_)
  replace hP : va_P D vwCl [(a_t, .inr (0, [.int k_height, .int k_width, .int k_barges, .long k_walls_12, .long k_taken_53, .ref a_kind, .ref a_place, .ref a_length, .ref a_gate, .ref a_across, .ref a_wide, .ref a_high, .ref a_shape])), (a_kind, .inl (cT 0, 12, .inl k_kind)), (a_place, .inl (cT 0, 12, .inl k_place_54)), (a_length, .inl (cT 0, 12, .inl k_length)), (a_gate, .inl (cT 0, 12, .inl k_gate_55)), (a_across, .inl (cT 2, 12, .inl k_across_56)), (a_wide, .inl (cT 0, 12, .inl k_wide_57)), (a_high, .inl (cT 0, 12, .inl k_high_58)), (a_shape, .inl (cT 1, 12, .inr (.inl k_shape_59)))] H := hP
  replace hD : va_D A [(a_t, .inr (0, [.int k_height, .int k_width, .int k_barges, .long k_walls_12, .long k_taken_53, .ref a_kind, .ref a_place, .ref a_length, .ref a_gate, .ref a_across, .ref a_wide, .ref a_high, .ref a_shape])), (a_kind, .inl (cT 0, 12, .inl k_kind)), (a_place, .inl (cT 0, 12, .inl k_place_54)), (a_length, .inl (cT 0, 12, .inl k_length)), (a_gate, .inl (cT 0, 12, .inl k_gate_55)), (a_across, .inl (cT 2, 12, .inl k_across_56)), (a_wide, .inl (cT 0, 12, .inl k_wide_57)), (a_high, .inl (cT 0, 12, .inl k_high_58)), (a_shape, .inl (cT 1, 12, .inr (.inl k_shape_59)))] := hD
  replace hf := ob_t10 hf
  obtain ⟨ee0, ee1, ee2, ee3, ee4, ee5, ee6, ee7, ee8, ee9⟩ := hf
  subst ee0
  subst ee1
  subst ee2
  subst ee3
  subst ee4
  subst ee5
  subst ee6
  subst ee7
  subst ee8
  subst ee9
  exact W.vret hx hb hr (fun t ht hW => ⟨⟨(), rfl, trivial, by rw [ht]; exact hP, va_K.moved hW.alike hK, hD⟩, hS.F ht⟩) hS.2.2 dX0_quarter_185
theorem iw_wsX0_isTwin_X0 : ∀ w ∈ wsX00, w ∈ wsX0_isTwin := fun _ h => List.mem_cons_of_mem _ (List.mem_append_right _ h)
abbrev rm_Chart_isTwin : Room := { frames := 0, cells := 0, slots := 0, locals := 0 }
set_option maxHeartbeats 4000000 in
set_option maxRecDepth 100000 in
theorem c_f_Chart_isTwin (l : Launch) (D : va_G) (cT : Nat → ClassId) (a_t a_p2 a_kind a_place a_length a_gate a_across a_wide a_high a_shape a_p2_kind a_p2_place a_p2_length a_p2_gate a_p2_across a_p2_wide a_p2_high a_p2_shape : Nat) (k_width : Int32) (k_height : Int32) (k_barges : Int32) (k_walls : Int64) (k_taken : Int64) (k_kind : Nat → Int32) (k_place : Nat → Int32) (k_length : Nat → Int32) (k_gate : Nat → Int32) (k_across : Nat → Int32) (k_p2_width : Int32) (k_p2_height : Int32) (k_p2_barges : Int32) (k_p2_walls : Int64) (k_p2_taken : Int64) (k_p2_kind : Nat → Int32) (k_p2_place : Nat → Int32) (k_p2_length : Nat → Int32) (k_p2_gate : Nat → Int32) (k_p2_across : Nat → Int32) (v1 : Int32) (v3 : Int32) (r0 : Int32) (hf : f_Chart_isTwin v1 v3 k_kind k_place k_length k_gate k_across k_p2_kind k_p2_place k_p2_length k_p2_gate k_p2_across = some r0) : Met l yX0_isTwin wsX0_isTwin rm_Chart_isTwin (va_Pc [.ref a_t, .int v1, .ref a_p2, .int v3] (fun U => va_P D vwCl [(a_t, .inr (0, [.int k_width, .int k_height, .int k_barges, .long k_walls, .long k_taken, .ref a_kind, .ref a_place, .ref a_length, .ref a_gate, .ref a_across, .ref a_wide, .ref a_high, .ref a_shape])), (a_kind, .inl (cT 0, 12, .inl k_kind)), (a_place, .inl (cT 0, 12, .inl k_place)), (a_length, .inl (cT 0, 12, .inl k_length)), (a_gate, .inl (cT 0, 12, .inl k_gate)), (a_across, .inl (cT 2, 12, .inl k_across)), (a_p2, .inr (0, [.int k_p2_width, .int k_p2_height, .int k_p2_barges, .long k_p2_walls, .long k_p2_taken, .ref a_p2_kind, .ref a_p2_place, .ref a_p2_length, .ref a_p2_gate, .ref a_p2_across, .ref a_p2_wide, .ref a_p2_high, .ref a_p2_shape])), (a_p2_kind, .inl (cT 0, 12, .inl k_p2_kind)), (a_p2_place, .inl (cT 0, 12, .inl k_p2_place)), (a_p2_length, .inl (cT 0, 12, .inl k_p2_length)), (a_p2_gate, .inl (cT 0, 12, .inl k_p2_gate)), (a_p2_across, .inl (cT 2, 12, .inl k_p2_across))] U.heap ∧ va_K D vwCl (jT cT) U ∧ jNw U)) (vp_Si (fun r => r = r0)) 0 0 (fun _ => False) := by
  refine Met.ofW (cc := cX0_isTwin) (maxL := 4) (ret := (some .boolean)) (by decide) rfl ?_
  intro p e s m args below meth c s₁ B hml hv
  obtain ⟨rfl, hP, hK, hN⟩ := hv
  have hx := B.exec
  have hb := B.bytes
  have hr := B.returns
  have hts := atoms_spec (ws := wsX0_isTwin) B.pre
  have hown : s.vm.findClass RX0 = some m.cls := findClass_of_methodNamed B.named
  have hlocks := B.notSynchronized
  have hl := lv_entry ([.ref a_t, .int v1, .ref a_p2, .int v3]) (n := 4) (Nat.le_of_ble_eq_true rfl)
  rw [lg_entry_eq]
  generalize (lg_sl ([.ref a_t, .int v1, .ref a_p2, .int v3]) ++ List.replicate (4 - (lg_sl ([.ref a_t, .int v1, .ref a_p2, .int v3])).length) Slot.unset).toArray = ls at hl ⊢
  have hl : lv_has ls 4 [(0, .ref a_t), (1, .int v1), (2, .ref a_p2), (3, .int v3)] := hl
  unfold f_Chart_isTwin at hf
  refine lv_aload_n hx hb dX0_isTwin_0 rfl (lv_at hl 0 rfl) ?_
  refine va_get (D := D) (ci := 0) (v := .ref a_place) (C := RX0) (T := TX0) (N := 13) hx hb hts iw_wsX0_isTwin_X0 hown hK hP 0 rfl rfl 6 (by decide) (hts (.fieldLink RX0 15 "BargeBasin$Chart" "place" "[I") (List.mem_of_getElem? (i := 1) (by decide +kernel))) (fun _ h9 => h9) rfl dX0_isTwin_1 ?_
  refine lv_iload_n hx hb dX0_isTwin_4 rfl (lv_at hl 1 rfl) ?_
  replace hf := ob_grd hf
  obtain ⟨hi_1, hf⟩ := hf
  refine va_iald hx hb hK hP 2 0 rfl rfl hi_1 dX0_isTwin_5 ?_
  refine lv_aload_n hx hb dX0_isTwin_6 rfl (lv_at hl 2 rfl) ?_
  refine va_get (D := D) (ci := 0) (v := .ref a_p2_place) (C := RX0) (T := TX0) (N := 13) hx hb hts iw_wsX0_isTwin_X0 hown hK hP 6 rfl rfl 6 (by decide) (hts (.fieldLink RX0 15 "BargeBasin$Chart" "place" "[I") (List.mem_of_getElem? (i := 1) (by decide +kernel))) (fun _ h9 => h9) rfl dX0_isTwin_7 ?_
  refine lv_iload_n hx hb dX0_isTwin_10 rfl (lv_at hl 3 rfl) ?_
  replace hf := ob_grd hf
  obtain ⟨hi_2, hf⟩ := hf
  refine va_iald hx hb hK hP 8 0 rfl rfl hi_2 dX0_isTwin_11 ?_
  refine lv_icmp_ne (tgt := 89) hx hb dX0_isTwin_12 (by decide) (fun c_3 => ?_) (fun c_3 => ?_)
  · replace hf := ob_neg c_3 hf
    refine lv_iconst (v := 0) hx hb dX0_isTwin_89 (by decide) ?_
    cases hf
    exact W.zret hx hb hr (by decide +kernel) (fun t ht hW => ⟨_, rfl, rfl, ht⟩) (fun q h => by cases h) dX0_isTwin_90
  · replace hf := ob_pos c_3 hf
    refine lv_aload_n hx hb dX0_isTwin_15 rfl (lv_at hl 0 rfl) ?_
    refine va_get (D := D) (ci := 0) (v := .ref a_kind) (C := RX0) (T := TX0) (N := 13) hx hb hts iw_wsX0_isTwin_X0 hown hK hP 0 rfl rfl 5 (by decide) (hts (.fieldLink RX0 9 "BargeBasin$Chart" "kind" "[I") (List.mem_of_getElem? (i := 2) (by decide +kernel))) (fun _ h9 => h9) rfl dX0_isTwin_16 ?_
    refine lv_iload_n hx hb dX0_isTwin_19 rfl (lv_at hl 1 rfl) ?_
    replace hf := ob_grd hf
    obtain ⟨hi_4, hf⟩ := hf
    refine va_iald hx hb hK hP 1 0 rfl rfl hi_4 dX0_isTwin_20 ?_
    refine lv_aload_n hx hb dX0_isTwin_21 rfl (lv_at hl 2 rfl) ?_
    refine va_get (D := D) (ci := 0) (v := .ref a_p2_kind) (C := RX0) (T := TX0) (N := 13) hx hb hts iw_wsX0_isTwin_X0 hown hK hP 6 rfl rfl 5 (by decide) (hts (.fieldLink RX0 9 "BargeBasin$Chart" "kind" "[I") (List.mem_of_getElem? (i := 2) (by decide +kernel))) (fun _ h9 => h9) rfl dX0_isTwin_22 ?_
    refine lv_iload_n hx hb dX0_isTwin_25 rfl (lv_at hl 3 rfl) ?_
    replace hf := ob_grd hf
    obtain ⟨hi_5, hf⟩ := hf
    refine va_iald hx hb hK hP 7 0 rfl rfl hi_5 dX0_isTwin_26 ?_
    refine lv_icmp_ne (tgt := 89) hx hb dX0_isTwin_27 (by decide) (fun c_6 => ?_) (fun c_6 => ?_)
    · replace hf := ob_neg c_6 hf
      refine lv_iconst (v := 0) hx hb dX0_isTwin_89 (by decide) ?_
      cases hf
      exact W.zret hx hb hr (by decide +kernel) (fun t ht hW => ⟨_, rfl, rfl, ht⟩) (fun q h => by cases h) dX0_isTwin_90
    · replace hf := ob_pos c_6 hf
      refine lv_aload_n hx hb dX0_isTwin_30 rfl (lv_at hl 0 rfl) ?_
      refine va_get (D := D) (ci := 0) (v := .ref a_length) (C := RX0) (T := TX0) (N := 13) hx hb hts iw_wsX0_isTwin_X0 hown hK hP 0 rfl rfl 7 (by decide) (hts (.fieldLink RX0 18 "BargeBasin$Chart" "length" "[I") (List.mem_of_getElem? (i := 3) (by decide +kernel))) (fun _ h9 => h9) rfl dX0_isTwin_31 ?_
      refine lv_iload_n hx hb dX0_isTwin_34 rfl (lv_at hl 1 rfl) ?_
      replace hf := ob_grd hf
      obtain ⟨hi_7, hf⟩ := hf
      refine va_iald hx hb hK hP 3 0 rfl rfl hi_7 dX0_isTwin_35 ?_
      refine lv_aload_n hx hb dX0_isTwin_36 rfl (lv_at hl 2 rfl) ?_
      refine va_get (D := D) (ci := 0) (v := .ref a_p2_length) (C := RX0) (T := TX0) (N := 13) hx hb hts iw_wsX0_isTwin_X0 hown hK hP 6 rfl rfl 7 (by decide) (hts (.fieldLink RX0 18 "BargeBasin$Chart" "length" "[I") (List.mem_of_getElem? (i := 3) (by decide +kernel))) (fun _ h9 => h9) rfl dX0_isTwin_37 ?_
      refine lv_iload_n hx hb dX0_isTwin_40 rfl (lv_at hl 3 rfl) ?_
      replace hf := ob_grd hf
      obtain ⟨hi_8, hf⟩ := hf
      refine va_iald hx hb hK hP 9 0 rfl rfl hi_8 dX0_isTwin_41 ?_
      refine lv_icmp_ne (tgt := 89) hx hb dX0_isTwin_42 (by decide) (fun c_9 => ?_) (fun c_9 => ?_)
      · replace hf := ob_neg c_9 hf
        refine lv_iconst (v := 0) hx hb dX0_isTwin_89 (by decide) ?_
        cases hf
        exact W.zret hx hb hr (by decide +kernel) (fun t ht hW => ⟨_, rfl, rfl, ht⟩) (fun q h => by cases h) dX0_isTwin_90
      · replace hf := ob_pos c_9 hf
        refine lv_aload_n hx hb dX0_isTwin_45 rfl (lv_at hl 0 rfl) ?_
        refine va_get (D := D) (ci := 0) (v := .ref a_across) (C := RX0) (T := TX0) (N := 13) hx hb hts iw_wsX0_isTwin_X0 hown hK hP 0 rfl rfl 9 (by decide) (hts (.fieldLink RX0 24 "BargeBasin$Chart" "across" "[Z") (List.mem_of_getElem? (i := 4) (by decide +kernel))) (fun _ h9 => h9) rfl dX0_isTwin_46 ?_
        refine lv_iload_n hx hb dX0_isTwin_49 rfl (lv_at hl 1 rfl) ?_
        replace hf := ob_grd hf
        obtain ⟨hi_10, hf⟩ := hf
        refine va_zald hx hb hK hP 5 2 rfl rfl hi_10 dX0_isTwin_50 ?_
        refine lv_aload_n hx hb dX0_isTwin_51 rfl (lv_at hl 2 rfl) ?_
        refine va_get (D := D) (ci := 0) (v := .ref a_p2_across) (C := RX0) (T := TX0) (N := 13) hx hb hts iw_wsX0_isTwin_X0 hown hK hP 6 rfl rfl 9 (by decide) (hts (.fieldLink RX0 24 "BargeBasin$Chart" "across" "[Z") (List.mem_of_getElem? (i := 4) (by decide +kernel))) (fun _ h9 => h9) rfl dX0_isTwin_52 ?_
        refine lv_iload_n hx hb dX0_isTwin_55 rfl (lv_at hl 3 rfl) ?_
        replace hf := ob_grd hf
        obtain ⟨hi_11, hf⟩ := hf
        refine va_zald hx hb hK hP 11 2 rfl rfl hi_11 dX0_isTwin_56 ?_
        refine lv_icmp_ne (tgt := 89) hx hb dX0_isTwin_57 (by decide) (fun c_12 => ?_) (fun c_12 => ?_)
        · replace hf := ob_neg c_12 hf
          refine lv_iconst (v := 0) hx hb dX0_isTwin_89 (by decide) ?_
          cases hf
          exact W.zret hx hb hr (by decide +kernel) (fun t ht hW => ⟨_, rfl, rfl, ht⟩) (fun q h => by cases h) dX0_isTwin_90
        · replace hf := ob_pos c_12 hf
          refine lv_aload_n hx hb dX0_isTwin_60 rfl (lv_at hl 0 rfl) ?_
          refine va_get (D := D) (ci := 0) (v := .ref a_kind) (C := RX0) (T := TX0) (N := 13) hx hb hts iw_wsX0_isTwin_X0 hown hK hP 0 rfl rfl 5 (by decide) (hts (.fieldLink RX0 9 "BargeBasin$Chart" "kind" "[I") (List.mem_of_getElem? (i := 2) (by decide +kernel))) (fun _ h9 => h9) rfl dX0_isTwin_61 ?_
          refine lv_iload_n hx hb dX0_isTwin_64 rfl (lv_at hl 1 rfl) ?_
          replace hf := ob_grd hf
          obtain ⟨hi_13, hf⟩ := hf
          refine va_iald hx hb hK hP 1 0 rfl rfl hi_13 dX0_isTwin_65 ?_
          refine lv_iconst (v := 5) hx hb dX0_isTwin_66 (by decide) ?_
          refine lv_icmp_ne (tgt := 85) hx hb dX0_isTwin_67 (by decide) (fun c_14 => ?_) (fun c_14 => ?_)
          · replace hf := ob_neg c_14 hf
            refine lv_iconst (v := 1) hx hb dX0_isTwin_85 (by decide) ?_
            refine lv_goto (tgt := 90) hx hb dX0_isTwin_86 (by decide) ?_
            cases hf
            exact W.zret hx hb hr (by decide +kernel) (fun t ht hW => ⟨_, rfl, rfl, ht⟩) (fun q h => by cases h) dX0_isTwin_90
          · replace hf := ob_pos c_14 hf
            refine lv_aload_n hx hb dX0_isTwin_70 rfl (lv_at hl 0 rfl) ?_
            refine va_get (D := D) (ci := 0) (v := .ref a_gate) (C := RX0) (T := TX0) (N := 13) hx hb hts iw_wsX0_isTwin_X0 hown hK hP 0 rfl rfl 8 (by decide) (hts (.fieldLink RX0 21 "BargeBasin$Chart" "gate" "[I") (List.mem_of_getElem? (i := 5) (by decide +kernel))) (fun _ h9 => h9) rfl dX0_isTwin_71 ?_
            refine lv_iload_n hx hb dX0_isTwin_74 rfl (lv_at hl 1 rfl) ?_
            replace hf := ob_grd hf
            obtain ⟨hi_15, hf⟩ := hf
            refine va_iald hx hb hK hP 4 0 rfl rfl hi_15 dX0_isTwin_75 ?_
            refine lv_aload_n hx hb dX0_isTwin_76 rfl (lv_at hl 2 rfl) ?_
            refine va_get (D := D) (ci := 0) (v := .ref a_p2_gate) (C := RX0) (T := TX0) (N := 13) hx hb hts iw_wsX0_isTwin_X0 hown hK hP 6 rfl rfl 8 (by decide) (hts (.fieldLink RX0 21 "BargeBasin$Chart" "gate" "[I") (List.mem_of_getElem? (i := 5) (by decide +kernel))) (fun _ h9 => h9) rfl dX0_isTwin_77 ?_
            refine lv_iload_n hx hb dX0_isTwin_80 rfl (lv_at hl 3 rfl) ?_
            replace hf := ob_grd hf
            obtain ⟨hi_16, hf⟩ := hf
            refine va_iald hx hb hK hP 10 0 rfl rfl hi_16 dX0_isTwin_81 ?_
            refine lv_icmp_ne (tgt := 89) hx hb dX0_isTwin_82 (by decide) (fun c_17 => ?_) (fun c_17 => ?_)
            · replace hf := ob_neg c_17 hf
              refine lv_iconst (v := 0) hx hb dX0_isTwin_89 (by decide) ?_
              cases hf
              exact W.zret hx hb hr (by decide +kernel) (fun t ht hW => ⟨_, rfl, rfl, ht⟩) (fun q h => by cases h) dX0_isTwin_90
            · replace hf := ob_pos c_17 hf
              refine lv_iconst (v := 1) hx hb dX0_isTwin_85 (by decide) ?_
              refine lv_goto (tgt := 90) hx hb dX0_isTwin_86 (by decide) ?_
              cases hf
              exact W.zret hx hb hr (by decide +kernel) (fun t ht hW => ⟨_, rfl, rfl, ht⟩) (fun q h => by cases h) dX0_isTwin_90
theorem iw_wsX0_isSame_X0 : ∀ w ∈ wsX00, w ∈ wsX0_isSame := fun _ h => List.mem_cons_of_mem _ (List.mem_append_right _ h)
abbrev rm_Chart_isSame : Room := { frames := 2, cells := 0, slots := 0, locals := 45 }
set_option maxHeartbeats 4000000 in
set_option maxRecDepth 100000 in
theorem l_f_Chart_isSame_L61 {p : Program} {l : Launch} {e : Env} {s : State} {m : MethodId} {args : Array Value} {below : List Frame} {meth : Method} {c : Code} {Q : State → Prop} {D : va_G} {cT : Nat → ClassId} {a_t a_p1 a_kind a_place a_length a_gate a_across a_wide a_high a_shape a_p1_kind a_p1_place a_p1_length a_p1_gate a_p1_across a_p1_wide a_p1_high a_p1_shape : Nat} {k_width : Int32} {k_height : Int32} {k_barges : Int32} {k_walls : Int64} {k_taken : Int64} {k_kind : Nat → Int32} {k_place : Nat → Int32} {k_length : Nat → Int32} {k_gate : Nat → Int32} {k_across : Nat → Int32} {k_p1_width : Int32} {k_p1_height : Int32} {k_p1_barges : Int32} {k_p1_walls : Int64} {k_p1_taken : Int64} {k_p1_kind : Nat → Int32} {k_p1_place : Nat → Int32} {k_p1_length : Nat → Int32} {k_p1_gate : Nat → Int32} {k_p1_across : Nat → Int32} {k_p1_shape : Nat → Int64} (hx : p.tables.exec = Jvm.exec) (hb : c.code = cX0_isSame) (hml : c.maxLocals = 4) (hown : s.vm.findClass RX0 = some m.cls) (hts : ∀ w ∈ wsX0_isSame, w.before args s = true) (hK : va_K D vwCl (jT cT) s) (hN : jNw s) (hP : va_P D vwCl [(a_t, .inr (0, [.int k_width, .int k_height, .int k_barges, .long k_walls, .long k_taken, .ref a_kind, .ref a_place, .ref a_length, .ref a_gate, .ref a_across, .ref a_wide, .ref a_high, .ref a_shape])), (a_kind, .inl (cT 0, 12, .inl k_kind)), (a_place, .inl (cT 0, 12, .inl k_place)), (a_length, .inl (cT 0, 12, .inl k_length)), (a_gate, .inl (cT 0, 12, .inl k_gate)), (a_across, .inl (cT 2, 12, .inl k_across)), (a_p1, .inr (0, [.int k_p1_width, .int k_p1_height, .int k_p1_barges, .long k_p1_walls, .long k_p1_taken, .ref a_p1_kind, .ref a_p1_place, .ref a_p1_length, .ref a_p1_gate, .ref a_p1_across, .ref a_p1_wide, .ref a_p1_high, .ref a_p1_shape])), (a_p1_kind, .inl (cT 0, 12, .inl k_p1_kind)), (a_p1_place, .inl (cT 0, 12, .inl k_p1_place)), (a_p1_length, .inl (cT 0, 12, .inl k_p1_length)), (a_p1_gate, .inl (cT 0, 12, .inl k_p1_gate)), (a_p1_across, .inl (cT 2, 12, .inl k_p1_across)), (a_p1_shape, .inl (cT 1, 12, .inr (.inl k_p1_shape)))] s.heap) : ∀ (n : Nat) (v2 : Int32) (ex : (Unit) ⊕ (Unit)), f_Chart_isSame_L61 k_barges k_kind k_place k_length k_gate k_across k_p1_barges k_p1_kind k_p1_place k_p1_length k_p1_gate k_p1_across k_p1_shape n v2 = some ex → ∀ (ls : Array Slot), lv_has ls 4 [(0, .ref a_t), (1, .ref a_p1), (2, .int v2)] → (ex = .inl (()) → ∀ (ls : Array Slot), lv_has ls 4 [] → W p l e (headSpec wsX0_isSame rm_Chart_isSame).room s m args below meth c s.heap [] 0 0 Q (F0 m 97 ls [])) → (ex = .inr (()) → ∀ (ls : Array Slot), lv_has ls 4 [] → W p l e (headSpec wsX0_isSame rm_Chart_isSame).room s m args below meth c s.heap [] 0 0 Q (F0 m 105 ls [])) → W p l e (headSpec wsX0_isSame rm_Chart_isSame).room s m args below meth c s.heap [] 0 0 Q (F0 m 61 ls []) := by
  intro n
  induction n with
  | zero => intro v2 ex hf; exact (ob_none hf).elim
  | succ n ih =>
    intro v2 ex hf ls hl K0 K1
    rw [f_Chart_isSame_L61] at hf
    refine lv_iload_n hx hb dX0_isSame_61 rfl (lv_at hl 2 rfl) ?_
    refine lv_aload_n hx hb dX0_isSame_62 rfl (lv_at hl 0 rfl) ?_
    refine va_get (D := D) (ci := 0) (v := .int k_barges) (C := RX0) (T := TX0) (N := 13) hx hb hts iw_wsX0_isSame_X0 hown hK hP 0 rfl rfl 2 (by decide) (hts (.fieldLink RX0 52 "BargeBasin$Chart" "barges" "I") (List.mem_of_getElem? (i := 5) (by decide +kernel))) (fun _ h9 => h9) rfl dX0_isSame_63 ?_
    refine lv_icmp_ge (tgt := 105) hx hb dX0_isSame_66 (by decide) (fun c_6 => ?_) (fun c_6 => ?_)
    · replace hf := ob_pos c_6 hf
      cases hf
      exact K1 rfl ls (lv_sub hl [] rfl)
    · replace hf := ob_neg c_6 hf
      refine lv_aload_n hx hb dX0_isSame_69 rfl (lv_at hl 1 rfl) ?_
      refine lv_lconst (v := 1) hx hb dX0_isSame_70 (by decide) ?_
      refine lv_aload_n hx hb dX0_isSame_71 rfl (lv_at hl 0 rfl) ?_
      refine va_get (D := D) (ci := 0) (v := .ref a_place) (C := RX0) (T := TX0) (N := 13) hx hb hts iw_wsX0_isSame_X0 hown hK hP 0 rfl rfl 6 (by decide) (hts (.fieldLink RX0 15 "BargeBasin$Chart" "place" "[I") (List.mem_of_getElem? (i := 6) (by decide +kernel))) (fun _ h9 => h9) rfl dX0_isSame_72 ?_
      refine lv_iload_n hx hb dX0_isSame_75 rfl (lv_at hl 2 rfl) ?_
      replace hf := ob_grd hf
      obtain ⟨hi_7, hf⟩ := hf
      refine va_iald hx hb hK hP 2 0 rfl rfl hi_7 dX0_isSame_76 ?_
      refine lv_lshl hx hb dX0_isSame_77 rfl ?_
      refine lv_iconst (v := -1) hx hb dX0_isSame_78 (by decide) ?_
      replace hf := ob_b hf
      obtain ⟨zr_8, hc_9, hf⟩ := hf
      refine vp_callSi (W.runV (As := [.long (jlshl ((1 : Int64)) (k_place v2.toNatClampNeg)), .int ((-1 : Int32))]) (rest := []) ⟨hx, hb, hml, hown, hts⟩ (c_f_Chart_firstIn l D cT a_p1 a_p1_kind a_p1_place a_p1_length a_p1_gate a_p1_across a_p1_wide a_p1_high a_p1_shape k_p1_width k_p1_height k_p1_barges k_p1_walls k_p1_taken k_p1_place k_p1_shape (jlshl ((1 : Int64)) (k_place v2.toNatClampNeg)) ((-1 : Int32)) _ hc_9) (cwV 2 hts gX0_isSame_X0_firstIn rfl rfl rfl (by decide +kernel) ⟨Nat.le_of_ble_eq_true rfl, Nat.le_of_ble_eq_true rfl⟩) ⟨fun a U g mk q => by obtain ⟨q0, qP, qK, qN⟩ := q; exact ⟨q0, qP, va_K.moved (u := U) (U := U.calling g mk a) (Vm.Alike.refl U.vm) qK, jNw_same (u := U) (U := U.calling g mk a) rfl qN⟩, va_recv hK hP (ci := 0) (q0 := 6) rfl rfl, fun U hU hW => ⟨rfl, by rw [hU]; exact hP.sub [6, 8, 12] rfl, va_K.moved hW.alike hK, jNw_warm hW hN⟩⟩ rfl rfl hl.1 rfl (lv_room (Nat.le_of_ble_eq_true rfl)) dX0_isSame_79 ⟨Nat.le_of_ble_eq_true rfl, Nat.le_of_ble_eq_true rfl⟩) (fun r_8 er_10 => ?_)
      subst er_10
      refine lv_istore_n (lv' := [(3, .int r_8), (0, .ref a_t), (1, .ref a_p1), (2, .int v2)]) hx hb dX0_isSame_82 rfl hl (by decide) rfl (fun ls hl => ?_)
      refine lv_iload_n hx hb dX0_isSame_83 rfl (lv_at hl 0 rfl) ?_
      refine lv_if_lt (tgt := 97) hx hb dX0_isSame_84 (by decide) (fun c_11 => ?_) (fun c_11 => ?_)
      · replace hf := ob_pos c_11 hf
        cases hf
        exact K0 rfl ls (lv_sub hl [] rfl)
      · replace hf := ob_neg c_11 hf
        refine lv_aload_n hx hb dX0_isSame_87 rfl (lv_at hl 1 rfl) ?_
        refine lv_iload_n hx hb dX0_isSame_88 rfl (lv_at hl 3 rfl) ?_
        refine lv_aload_n hx hb dX0_isSame_89 rfl (lv_at hl 2 rfl) ?_
        refine lv_iload_n hx hb dX0_isSame_90 rfl (lv_at hl 0 rfl) ?_
        replace hf := ob_b hf
        obtain ⟨zr_12, hc_13, hf⟩ := hf
        refine vp_callSi (W.runV (As := [.int v2, .ref a_p1, .int r_8]) (rest := []) ⟨hx, hb, hml, hown, hts⟩ (c_f_Chart_isTwin l D cT a_t a_p1 a_kind a_place a_length a_gate a_across a_wide a_high a_shape a_p1_kind a_p1_place a_p1_length a_p1_gate a_p1_across a_p1_wide a_p1_high a_p1_shape k_width k_height k_barges k_walls k_taken k_kind k_place k_length k_gate k_across k_p1_width k_p1_height k_p1_barges k_p1_walls k_p1_taken k_p1_kind k_p1_place k_p1_length k_p1_gate k_p1_across v2 r_8 _ hc_13) (cwV 3 hts gX0_isSame_X0_isTwin rfl rfl rfl (by decide +kernel) ⟨Nat.le_of_ble_eq_true rfl, Nat.le_of_ble_eq_true rfl⟩) ⟨fun a U g mk q => by obtain ⟨q0, qP, qK, qN⟩ := q; exact ⟨q0, qP, va_K.moved (u := U) (U := U.calling g mk a) (Vm.Alike.refl U.vm) qK, jNw_same (u := U) (U := U.calling g mk a) rfl qN⟩, va_recv hK hP (ci := 0) (q0 := 0) rfl rfl, fun U hU hW => ⟨rfl, by rw [hU]; exact hP.sub [0, 1, 2, 3, 4, 5, 6, 7, 8, 9, 10, 11] rfl, va_K.moved hW.alike hK, jNw_warm hW hN⟩⟩ rfl rfl hl.1 rfl (lv_room (Nat.le_of_ble_eq_true rfl)) dX0_isSame_91 ⟨Nat.le_of_ble_eq_true rfl, Nat.le_of_ble_eq_true rfl⟩) (fun r_12 er_14 => ?_)
        subst er_14
        refine lv_if_ne (tgt := 99) hx hb dX0_isSame_94 (by decide) (fun c_15 => ?_) (fun c_15 => ?_)
        · replace hf := ob_neg c_15 hf
          obtain ⟨v2_16, ev2_16⟩ : ∃ y : Int32, y = v2 + 1 := ⟨_, rfl⟩
          replace hf := ob_nm ev2_16 hf
          refine lv_iinc (v := v2_16) (lv' := [(2, .int v2_16), (3, .int r_8), (0, .ref a_t), (1, .ref a_p1)]) hx hb dX0_isSame_99 hl (k := 3) rfl (by rw [ev2_16]; rfl) (by decide) rfl (fun ls hl => ?_)
          refine lv_goto (tgt := 61) hx hb dX0_isSame_102 (by decide) ?_
          exact ih _ ex hf ls (lv_sub hl [2, 3, 0] rfl) K0 K1
        · replace hf := ob_pos c_15 hf
          cases hf
          exact K0 rfl ls (lv_sub hl [] rfl)
set_option maxHeartbeats 4000000 in
set_option maxRecDepth 100000 in
theorem c_f_Chart_isSame (l : Launch) (D : va_G) (cT : Nat → ClassId) (a_t a_p1 a_kind a_place a_length a_gate a_across a_wide a_high a_shape a_p1_kind a_p1_place a_p1_length a_p1_gate a_p1_across a_p1_wide a_p1_high a_p1_shape : Nat) (k_width : Int32) (k_height : Int32) (k_barges : Int32) (k_walls : Int64) (k_taken : Int64) (k_kind : Nat → Int32) (k_place : Nat → Int32) (k_length : Nat → Int32) (k_gate : Nat → Int32) (k_across : Nat → Int32) (k_p1_width : Int32) (k_p1_height : Int32) (k_p1_barges : Int32) (k_p1_walls : Int64) (k_p1_taken : Int64) (k_p1_kind : Nat → Int32) (k_p1_place : Nat → Int32) (k_p1_length : Nat → Int32) (k_p1_gate : Nat → Int32) (k_p1_across : Nat → Int32) (k_p1_shape : Nat → Int64) (r0 : Int32) (hf : f_Chart_isSame k_width k_height k_barges k_walls k_taken k_kind k_place k_length k_gate k_across k_p1_width k_p1_height k_p1_barges k_p1_walls k_p1_taken k_p1_kind k_p1_place k_p1_length k_p1_gate k_p1_across k_p1_shape = some r0) : Met l yX0_isSame wsX0_isSame rm_Chart_isSame (va_Pc [.ref a_t, .ref a_p1] (fun U => va_P D vwCl [(a_t, .inr (0, [.int k_width, .int k_height, .int k_barges, .long k_walls, .long k_taken, .ref a_kind, .ref a_place, .ref a_length, .ref a_gate, .ref a_across, .ref a_wide, .ref a_high, .ref a_shape])), (a_kind, .inl (cT 0, 12, .inl k_kind)), (a_place, .inl (cT 0, 12, .inl k_place)), (a_length, .inl (cT 0, 12, .inl k_length)), (a_gate, .inl (cT 0, 12, .inl k_gate)), (a_across, .inl (cT 2, 12, .inl k_across)), (a_p1, .inr (0, [.int k_p1_width, .int k_p1_height, .int k_p1_barges, .long k_p1_walls, .long k_p1_taken, .ref a_p1_kind, .ref a_p1_place, .ref a_p1_length, .ref a_p1_gate, .ref a_p1_across, .ref a_p1_wide, .ref a_p1_high, .ref a_p1_shape])), (a_p1_kind, .inl (cT 0, 12, .inl k_p1_kind)), (a_p1_place, .inl (cT 0, 12, .inl k_p1_place)), (a_p1_length, .inl (cT 0, 12, .inl k_p1_length)), (a_p1_gate, .inl (cT 0, 12, .inl k_p1_gate)), (a_p1_across, .inl (cT 2, 12, .inl k_p1_across)), (a_p1_shape, .inl (cT 1, 12, .inr (.inl k_p1_shape)))] U.heap ∧ va_K D vwCl (jT cT) U ∧ jNw U)) (vp_Si (fun r => r = r0)) 0 0 (fun _ => False) := by
  refine Met.ofW (cc := cX0_isSame) (maxL := 4) (ret := (some .boolean)) (by decide) rfl ?_
  intro p e s m args below meth c s₁ B hml hv
  obtain ⟨rfl, hP, hK, hN⟩ := hv
  have hx := B.exec
  have hb := B.bytes
  have hr := B.returns
  have hts := atoms_spec (ws := wsX0_isSame) B.pre
  have hown : s.vm.findClass RX0 = some m.cls := findClass_of_methodNamed B.named
  have hlocks := B.notSynchronized
  have hl := lv_entry ([.ref a_t, .ref a_p1]) (n := 4) (Nat.le_of_ble_eq_true rfl)
  rw [lg_entry_eq]
  generalize (lg_sl ([.ref a_t, .ref a_p1]) ++ List.replicate (4 - (lg_sl ([.ref a_t, .ref a_p1])).length) Slot.unset).toArray = ls at hl ⊢
  have hl : lv_has ls 4 [(0, .ref a_t), (1, .ref a_p1)] := hl
  unfold f_Chart_isSame at hf
  refine lv_aload_n hx hb dX0_isSame_0 rfl (lv_at hl 0 rfl) ?_
  refine va_get (D := D) (ci := 0) (v := .int k_width) (C := RX0) (T := TX0) (N := 13) hx hb hts iw_wsX0_isSame_X0 hown hK hP 0 rfl rfl 0 (by decide) (hts (.fieldLink RX0 38 "BargeBasin$Chart" "width" "I") (List.mem_of_getElem? (i := 1) (by decide +kernel))) (fun _ h9 => h9) rfl dX0_isSame_1 ?_
  refine lv_aload_n hx hb dX0_isSame_4 rfl (lv_at hl 1 rfl) ?_
  refine va_get (D := D) (ci := 0) (v := .int k_p1_width) (C := RX0) (T := TX0) (N := 13) hx hb hts iw_wsX0_isSame_X0 hown hK hP 6 rfl rfl 0 (by decide) (hts (.fieldLink RX0 38 "BargeBasin$Chart" "width" "I") (List.mem_of_getElem? (i := 1) (by decide +kernel))) (fun _ h9 => h9) rfl dX0_isSame_5 ?_
  refine lv_icmp_ne (tgt := 57) hx hb dX0_isSame_8 (by decide) (fun c_1 => ?_) (fun c_1 => ?_)
  · replace hf := ob_neg c_1 hf
    refine lv_iconst (v := 0) hx hb dX0_isSame_57 (by decide) ?_
    cases hf
    exact W.zret hx hb hr (by decide +kernel) (fun t ht hW => ⟨_, rfl, rfl, ht⟩) (fun q h => by cases h) dX0_isSame_58
  · replace hf := ob_pos c_1 hf
    refine lv_aload_n hx hb dX0_isSame_11 rfl (lv_at hl 0 rfl) ?_
    refine va_get (D := D) (ci := 0) (v := .int k_height) (C := RX0) (T := TX0) (N := 13) hx hb hts iw_wsX0_isSame_X0 hown hK hP 0 rfl rfl 1 (by decide) (hts (.fieldLink RX0 42 "BargeBasin$Chart" "height" "I") (List.mem_of_getElem? (i := 2) (by decide +kernel))) (fun _ h9 => h9) rfl dX0_isSame_12 ?_
    refine lv_aload_n hx hb dX0_isSame_15 rfl (lv_at hl 1 rfl) ?_
    refine va_get (D := D) (ci := 0) (v := .int k_p1_height) (C := RX0) (T := TX0) (N := 13) hx hb hts iw_wsX0_isSame_X0 hown hK hP 6 rfl rfl 1 (by decide) (hts (.fieldLink RX0 42 "BargeBasin$Chart" "height" "I") (List.mem_of_getElem? (i := 2) (by decide +kernel))) (fun _ h9 => h9) rfl dX0_isSame_16 ?_
    refine lv_icmp_ne (tgt := 57) hx hb dX0_isSame_19 (by decide) (fun c_2 => ?_) (fun c_2 => ?_)
    · replace hf := ob_neg c_2 hf
      refine lv_iconst (v := 0) hx hb dX0_isSame_57 (by decide) ?_
      cases hf
      exact W.zret hx hb hr (by decide +kernel) (fun t ht hW => ⟨_, rfl, rfl, ht⟩) (fun q h => by cases h) dX0_isSame_58
    · replace hf := ob_pos c_2 hf
      refine lv_aload_n hx hb dX0_isSame_22 rfl (lv_at hl 0 rfl) ?_
      refine va_get (D := D) (ci := 0) (v := .long k_walls) (C := RX0) (T := TX0) (N := 13) hx hb hts iw_wsX0_isSame_X0 hown hK hP 0 rfl rfl 3 (by decide) (hts (.fieldLink RX0 45 "BargeBasin$Chart" "walls" "J") (List.mem_of_getElem? (i := 3) (by decide +kernel))) (fun _ h9 => h9) rfl dX0_isSame_23 ?_
      refine lv_aload_n hx hb dX0_isSame_26 rfl (lv_at hl 1 rfl) ?_
      refine va_get (D := D) (ci := 0) (v := .long k_p1_walls) (C := RX0) (T := TX0) (N := 13) hx hb hts iw_wsX0_isSame_X0 hown hK hP 6 rfl rfl 3 (by decide) (hts (.fieldLink RX0 45 "BargeBasin$Chart" "walls" "J") (List.mem_of_getElem? (i := 3) (by decide +kernel))) (fun _ h9 => h9) rfl dX0_isSame_27 ?_
      refine W.lcmp hx hb dX0_isSame_30 ?_
      refine lv_if_ne (tgt := 57) hx hb dX0_isSame_31 (by decide) (fun c_3 => ?_) (fun c_3 => ?_)
      · replace hf := ob_neg c_3 hf
        refine lv_iconst (v := 0) hx hb dX0_isSame_57 (by decide) ?_
        cases hf
        exact W.zret hx hb hr (by decide +kernel) (fun t ht hW => ⟨_, rfl, rfl, ht⟩) (fun q h => by cases h) dX0_isSame_58
      · replace hf := ob_pos c_3 hf
        refine lv_aload_n hx hb dX0_isSame_34 rfl (lv_at hl 0 rfl) ?_
        refine va_get (D := D) (ci := 0) (v := .long k_taken) (C := RX0) (T := TX0) (N := 13) hx hb hts iw_wsX0_isSame_X0 hown hK hP 0 rfl rfl 4 (by decide) (hts (.fieldLink RX0 55 "BargeBasin$Chart" "taken" "J") (List.mem_of_getElem? (i := 4) (by decide +kernel))) (fun _ h9 => h9) rfl dX0_isSame_35 ?_
        refine lv_aload_n hx hb dX0_isSame_38 rfl (lv_at hl 1 rfl) ?_
        refine va_get (D := D) (ci := 0) (v := .long k_p1_taken) (C := RX0) (T := TX0) (N := 13) hx hb hts iw_wsX0_isSame_X0 hown hK hP 6 rfl rfl 4 (by decide) (hts (.fieldLink RX0 55 "BargeBasin$Chart" "taken" "J") (List.mem_of_getElem? (i := 4) (by decide +kernel))) (fun _ h9 => h9) rfl dX0_isSame_39 ?_
        refine W.lcmp hx hb dX0_isSame_42 ?_
        refine lv_if_ne (tgt := 57) hx hb dX0_isSame_43 (by decide) (fun c_4 => ?_) (fun c_4 => ?_)
        · replace hf := ob_neg c_4 hf
          refine lv_iconst (v := 0) hx hb dX0_isSame_57 (by decide) ?_
          cases hf
          exact W.zret hx hb hr (by decide +kernel) (fun t ht hW => ⟨_, rfl, rfl, ht⟩) (fun q h => by cases h) dX0_isSame_58
        · replace hf := ob_pos c_4 hf
          refine lv_aload_n hx hb dX0_isSame_46 rfl (lv_at hl 0 rfl) ?_
          refine va_get (D := D) (ci := 0) (v := .int k_barges) (C := RX0) (T := TX0) (N := 13) hx hb hts iw_wsX0_isSame_X0 hown hK hP 0 rfl rfl 2 (by decide) (hts (.fieldLink RX0 52 "BargeBasin$Chart" "barges" "I") (List.mem_of_getElem? (i := 5) (by decide +kernel))) (fun _ h9 => h9) rfl dX0_isSame_47 ?_
          refine lv_aload_n hx hb dX0_isSame_50 rfl (lv_at hl 1 rfl) ?_
          refine va_get (D := D) (ci := 0) (v := .int k_p1_barges) (C := RX0) (T := TX0) (N := 13) hx hb hts iw_wsX0_isSame_X0 hown hK hP 6 rfl rfl 2 (by decide) (hts (.fieldLink RX0 52 "BargeBasin$Chart" "barges" "I") (List.mem_of_getElem? (i := 5) (by decide +kernel))) (fun _ h9 => h9) rfl dX0_isSame_51 ?_
          refine lv_icmp_eq (tgt := 59) hx hb dX0_isSame_54 (by decide) (fun c_5 => ?_) (fun c_5 => ?_)
          · replace hf := ob_pos c_5 hf
            refine lv_iconst (v := 0) hx hb dX0_isSame_59 (by decide) ?_
            refine lv_istore_n (lv' := [(2, .int ((0 : Int32))), (0, .ref a_t), (1, .ref a_p1)]) hx hb dX0_isSame_60 rfl hl (by decide) rfl (fun ls hl => ?_)
            replace hf := ob_b hf
            obtain ⟨ex_17, hq_18, hf⟩ := hf
            refine l_f_Chart_isSame_L61 hx hb hml hown hts hK hN hP jN _ ex_17 hq_18 ls (lv_sub hl [1, 2, 0] rfl) (fun ee_19 ls hl => ?_) (fun ee_20 ls hl => ?_)
            · subst ee_19
              replace hf := ob_inl hf
              replace hf := ob_un0 hf
              refine lv_iconst (v := 0) hx hb dX0_isSame_97 (by decide) ?_
              cases hf
              exact W.zret hx hb hr (by decide +kernel) (fun t ht hW => ⟨_, rfl, rfl, ht⟩) (fun q h => by cases h) dX0_isSame_98
            · subst ee_20
              replace hf := ob_inr hf
              replace hf := ob_un0 hf
              refine lv_iconst (v := 1) hx hb dX0_isSame_105 (by decide) ?_
              cases hf
              exact W.zret hx hb hr (by decide +kernel) (fun t ht hW => ⟨_, rfl, rfl, ht⟩) (fun q h => by cases h) dX0_isSame_106
          · replace hf := ob_neg c_5 hf
            refine lv_iconst (v := 0) hx hb dX0_isSame_57 (by decide) ?_
            cases hf
            exact W.zret hx hb hr (by decide +kernel) (fun t ht hW => ⟨_, rfl, rfl, ht⟩) (fun q h => by cases h) dX0_isSame_58
theorem iw_wsX0_isSameTurned_X0 : ∀ w ∈ wsX00, w ∈ wsX0_isSameTurned := fun _ h => List.mem_cons_of_mem _ (List.mem_append_right _ h)
abbrev rm_Chart_isSameTurned : Room := { frames := 3, cells := 0, slots := 0, locals := 70 }
set_option maxHeartbeats 4000000 in
set_option maxRecDepth 100000 in
theorem l_f_Chart_isSameTurned_L9 {p : Program} {l : Launch} {e : Env} {s : State} {m : MethodId} {args : Array Value} {below : List Frame} {meth : Method} {c : Code} {Q : State → Prop} {A : Nat → Prop} {D : va_G} {cT : Nat → ClassId} {a_t a_p1 a_kind a_place a_length a_gate a_across a_wide a_high a_shape a_p1_kind a_p1_place a_p1_length a_p1_gate a_p1_across a_p1_wide a_p1_high a_p1_shape : Nat} {k_barges : Int32} {k_kind : Nat → Int32} {k_length : Nat → Int32} {k_p1_width : Int32} {k_p1_height : Int32} {k_p1_barges : Int32} {k_p1_walls : Int64} {k_p1_taken : Int64} {k_p1_kind : Nat → Int32} {k_p1_place : Nat → Int32} {k_p1_length : Nat → Int32} {k_p1_gate : Nat → Int32} {k_p1_across : Nat → Int32} {k_p1_shape : Nat → Int64} {v2 : Int32} (hx : p.tables.exec = Jvm.exec) (hb : c.code = cX0_isSameTurned) (hml : c.maxLocals = 4) (hown : s.vm.findClass RX0 = some m.cls) (hts : ∀ w ∈ wsX0_isSameTurned, w.before args s = true) (hK : va_K D vwCl (jT cT) s) (hN : jNw s) (hA : ∀ q : Nat, s.heap.size ≤ q → A q) : ∀ (n : Nat) (v3 : Int32) (k_width : Int32) (k_height : Int32) (k_walls : Int64) (k_taken : Int64) (k_place : Nat → Int32) (k_gate : Nat → Int32) (k_across : Nat → Int32) (k_wide : Nat → Int32) (k_high : Nat → Int32) (k_shape : Nat → Int64) (ex : ((Int32) × (Int32) × (Int64) × (Int64) × (Nat → Int32) × (Nat → Int32) × (Nat → Int32) × (Nat → Int32) × (Nat → Int32) × (Nat → Int64)) ⊕ ((Int32) × (Int32) × (Int64) × (Int64) × (Nat → Int32) × (Nat → Int32) × (Nat → Int32) × (Nat → Int32) × (Nat → Int32) × (Nat → Int64))), f_Chart_isSameTurned_L9 v2 k_barges k_kind k_length k_p1_width k_p1_height k_p1_barges k_p1_walls k_p1_taken k_p1_kind k_p1_place k_p1_length k_p1_gate k_p1_across k_p1_shape n v3 k_width k_height k_walls k_taken k_place k_gate k_across k_wide k_high k_shape = some ex → ∀ (H : Heap) (locs : List Loc), va_P D vwCl [(a_t, .inr (0, [.int k_width, .int k_height, .int k_barges, .long k_walls, .long k_taken, .ref a_kind, .ref a_place, .ref a_length, .ref a_gate, .ref a_across, .ref a_wide, .ref a_high, .ref a_shape])), (a_kind, .inl (cT 0, 12, .inl k_kind)), (a_place, .inl (cT 0, 12, .inl k_place)), (a_length, .inl (cT 0, 12, .inl k_length)), (a_gate, .inl (cT 0, 12, .inl k_gate)), (a_across, .inl (cT 2, 12, .inl k_across)), (a_wide, .inl (cT 0, 12, .inl k_wide)), (a_high, .inl (cT 0, 12, .inl k_high)), (a_shape, .inl (cT 1, 12, .inr (.inl k_shape))), (a_p1, .inr (0, [.int k_p1_width, .int k_p1_height, .int k_p1_barges, .long k_p1_walls, .long k_p1_taken, .ref a_p1_kind, .ref a_p1_place, .ref a_p1_length, .ref a_p1_gate, .ref a_p1_across, .ref a_p1_wide, .ref a_p1_high, .ref a_p1_shape])), (a_p1_kind, .inl (cT 0, 12, .inl k_p1_kind)), (a_p1_place, .inl (cT 0, 12, .inl k_p1_place)), (a_p1_length, .inl (cT 0, 12, .inl k_p1_length)), (a_p1_gate, .inl (cT 0, 12, .inl k_p1_gate)), (a_p1_across, .inl (cT 2, 12, .inl k_p1_across)), (a_p1_shape, .inl (cT 1, 12, .inr (.inl k_p1_shape)))] H → va_D A [(a_t, .inr (0, [.int k_width, .int k_height, .int k_barges, .long k_walls, .long k_taken, .ref a_kind, .ref a_place, .ref a_length, .ref a_gate, .ref a_across, .ref a_wide, .ref a_high, .ref a_shape])), (a_kind, .inl (cT 0, 12, .inl k_kind)), (a_place, .inl (cT 0, 12, .inl k_place)), (a_length, .inl (cT 0, 12, .inl k_length)), (a_gate, .inl (cT 0, 12, .inl k_gate)), (a_across, .inl (cT 2, 12, .inl k_across)), (a_wide, .inl (cT 0, 12, .inl k_wide)), (a_high, .inl (cT 0, 12, .inl k_high)), (a_shape, .inl (cT 1, 12, .inr (.inl k_shape))), (a_p1, .inr (0, [.int k_p1_width, .int k_p1_height, .int k_p1_barges, .long k_p1_walls, .long k_p1_taken, .ref a_p1_kind, .ref a_p1_place, .ref a_p1_length, .ref a_p1_gate, .ref a_p1_across, .ref a_p1_wide, .ref a_p1_high, .ref a_p1_shape])), (a_p1_kind, .inl (cT 0, 12, .inl k_p1_kind)), (a_p1_place, .inl (cT 0, 12, .inl k_p1_place)), (a_p1_length, .inl (cT 0, 12, .inl k_p1_length)), (a_p1_gate, .inl (cT 0, 12, .inl k_p1_gate)), (a_p1_across, .inl (cT 2, 12, .inl k_p1_across)), (a_p1_shape, .inl (cT 1, 12, .inr (.inl k_p1_shape)))] → va_S A s.heap H locs → ∀ (ls : Array Slot), lv_has ls 4 [(0, .ref a_t), (1, .ref a_p1), (2, .int v2), (3, .int v3)] → (∀ (k_width_20 : Int32) (k_height_21 : Int32) (k_walls_22 : Int64) (k_taken_23 : Int64) (k_place_24 : Nat → Int32) (k_gate_25 : Nat → Int32) (k_across_26 : Nat → Int32) (k_wide_27 : Nat → Int32) (k_high_28 : Nat → Int32) (k_shape_29 : Nat → Int64), ex = .inl ((k_width_20, k_height_21, k_walls_22, k_taken_23, k_place_24, k_gate_25, k_across_26, k_wide_27, k_high_28, k_shape_29)) → ∀ (H : Heap) (locs : List Loc), va_P D vwCl [(a_t, .inr (0, [.int k_width_20, .int k_height_21, .int k_barges, .long k_walls_22, .long k_taken_23, .ref a_kind, .ref a_place, .ref a_length, .ref a_gate, .ref a_across, .ref a_wide, .ref a_high, .ref a_shape])), (a_kind, .inl (cT 0, 12, .inl k_kind)), (a_place, .inl (cT 0, 12, .inl k_place_24)), (a_length, .inl (cT 0, 12, .inl k_length)), (a_gate, .inl (cT 0, 12, .inl k_gate_25)), (a_across, .inl (cT 2, 12, .inl k_across_26)), (a_wide, .inl (cT 0, 12, .inl k_wide_27)), (a_high, .inl (cT 0, 12, .inl k_high_28)), (a_shape, .inl (cT 1, 12, .inr (.inl k_shape_29))), (a_p1, .inr (0, [.int k_p1_width, .int k_p1_height, .int k_p1_barges, .long k_p1_walls, .long k_p1_taken, .ref a_p1_kind, .ref a_p1_place, .ref a_p1_length, .ref a_p1_gate, .ref a_p1_across, .ref a_p1_wide, .ref a_p1_high, .ref a_p1_shape])), (a_p1_kind, .inl (cT 0, 12, .inl k_p1_kind)), (a_p1_place, .inl (cT 0, 12, .inl k_p1_place)), (a_p1_length, .inl (cT 0, 12, .inl k_p1_length)), (a_p1_gate, .inl (cT 0, 12, .inl k_p1_gate)), (a_p1_across, .inl (cT 2, 12, .inl k_p1_across)), (a_p1_shape, .inl (cT 1, 12, .inr (.inl k_p1_shape)))] H → va_D A [(a_t, .inr (0, [.int k_width_20, .int k_height_21, .int k_barges, .long k_walls_22, .long k_taken_23, .ref a_kind, .ref a_place, .ref a_length, .ref a_gate, .ref a_across, .ref a_wide, .ref a_high, .ref a_shape])), (a_kind, .inl (cT 0, 12, .inl k_kind)), (a_place, .inl (cT 0, 12, .inl k_place_24)), (a_length, .inl (cT 0, 12, .inl k_length)), (a_gate, .inl (cT 0, 12, .inl k_gate_25)), (a_across, .inl (cT 2, 12, .inl k_across_26)), (a_wide, .inl (cT 0, 12, .inl k_wide_27)), (a_high, .inl (cT 0, 12, .inl k_high_28)), (a_shape, .inl (cT 1, 12, .inr (.inl k_shape_29))), (a_p1, .inr (0, [.int k_p1_width, .int k_p1_height, .int k_p1_barges, .long k_p1_walls, .long k_p1_taken, .ref a_p1_kind, .ref a_p1_place, .ref a_p1_length, .ref a_p1_gate, .ref a_p1_across, .ref a_p1_wide, .ref a_p1_high, .ref a_p1_shape])), (a_p1_kind, .inl (cT 0, 12, .inl k_p1_kind)), (a_p1_place, .inl (cT 0, 12, .inl k_p1_place)), (a_p1_length, .inl (cT 0, 12, .inl k_p1_length)), (a_p1_gate, .inl (cT 0, 12, .inl k_p1_gate)), (a_p1_across, .inl (cT 2, 12, .inl k_p1_across)), (a_p1_shape, .inl (cT 1, 12, .inr (.inl k_p1_shape)))] → va_S A s.heap H locs → ∀ (ls : Array Slot), lv_has ls 4 [] → W p l e (headSpec wsX0_isSameTurned rm_Chart_isSameTurned).room s m args below meth c H locs 0 0 Q (F0 m 26 ls [])) → (∀ (k_width_30 : Int32) (k_height_31 : Int32) (k_walls_32 : Int64) (k_taken_33 : Int64) (k_place_34 : Nat → Int32) (k_gate_35 : Nat → Int32) (k_across_36 : Nat → Int32) (k_wide_37 : Nat → Int32) (k_high_38 : Nat → Int32) (k_shape_39 : Nat → Int64), ex = .inr ((k_width_30, k_height_31, k_walls_32, k_taken_33, k_place_34, k_gate_35, k_across_36, k_wide_37, k_high_38, k_shape_39)) → ∀ (H : Heap) (locs : List Loc), va_P D vwCl [(a_t, .inr (0, [.int k_width_30, .int k_height_31, .int k_barges, .long k_walls_32, .long k_taken_33, .ref a_kind, .ref a_place, .ref a_length, .ref a_gate, .ref a_across, .ref a_wide, .ref a_high, .ref a_shape])), (a_kind, .inl (cT 0, 12, .inl k_kind)), (a_place, .inl (cT 0, 12, .inl k_place_34)), (a_length, .inl (cT 0, 12, .inl k_length)), (a_gate, .inl (cT 0, 12, .inl k_gate_35)), (a_across, .inl (cT 2, 12, .inl k_across_36)), (a_wide, .inl (cT 0, 12, .inl k_wide_37)), (a_high, .inl (cT 0, 12, .inl k_high_38)), (a_shape, .inl (cT 1, 12, .inr (.inl k_shape_39))), (a_p1, .inr (0, [.int k_p1_width, .int k_p1_height, .int k_p1_barges, .long k_p1_walls, .long k_p1_taken, .ref a_p1_kind, .ref a_p1_place, .ref a_p1_length, .ref a_p1_gate, .ref a_p1_across, .ref a_p1_wide, .ref a_p1_high, .ref a_p1_shape])), (a_p1_kind, .inl (cT 0, 12, .inl k_p1_kind)), (a_p1_place, .inl (cT 0, 12, .inl k_p1_place)), (a_p1_length, .inl (cT 0, 12, .inl k_p1_length)), (a_p1_gate, .inl (cT 0, 12, .inl k_p1_gate)), (a_p1_across, .inl (cT 2, 12, .inl k_p1_across)), (a_p1_shape, .inl (cT 1, 12, .inr (.inl k_p1_shape)))] H → va_D A [(a_t, .inr (0, [.int k_width_30, .int k_height_31, .int k_barges, .long k_walls_32, .long k_taken_33, .ref a_kind, .ref a_place, .ref a_length, .ref a_gate, .ref a_across, .ref a_wide, .ref a_high, .ref a_shape])), (a_kind, .inl (cT 0, 12, .inl k_kind)), (a_place, .inl (cT 0, 12, .inl k_place_34)), (a_length, .inl (cT 0, 12, .inl k_length)), (a_gate, .inl (cT 0, 12, .inl k_gate_35)), (a_across, .inl (cT 2, 12, .inl k_across_36)), (a_wide, .inl (cT 0, 12, .inl k_wide_37)), (a_high, .inl (cT 0, 12, .inl k_high_38)), (a_shape, .inl (cT 1, 12, .inr (.inl k_shape_39))), (a_p1, .inr (0, [.int k_p1_width, .int k_p1_height, .int k_p1_barges, .long k_p1_walls, .long k_p1_taken, .ref a_p1_kind, .ref a_p1_place, .ref a_p1_length, .ref a_p1_gate, .ref a_p1_across, .ref a_p1_wide, .ref a_p1_high, .ref a_p1_shape])), (a_p1_kind, .inl (cT 0, 12, .inl k_p1_kind)), (a_p1_place, .inl (cT 0, 12, .inl k_p1_place)), (a_p1_length, .inl (cT 0, 12, .inl k_p1_length)), (a_p1_gate, .inl (cT 0, 12, .inl k_p1_gate)), (a_p1_across, .inl (cT 2, 12, .inl k_p1_across)), (a_p1_shape, .inl (cT 1, 12, .inr (.inl k_p1_shape)))] → va_S A s.heap H locs → ∀ (ls : Array Slot), lv_has ls 4 [(0, .ref a_t), (1, .ref a_p1), (2, .int v2)] → W p l e (headSpec wsX0_isSameTurned rm_Chart_isSameTurned).room s m args below meth c H locs 0 0 Q (F0 m 34 ls [])) → W p l e (headSpec wsX0_isSameTurned rm_Chart_isSameTurned).room s m args below meth c H locs 0 0 Q (F0 m 9 ls []) := by
  intro n
  induction n with
  | zero => intro v3 k_width k_height k_walls k_taken k_place k_gate k_across k_wide k_high k_shape ex hf; exact (ob_none hf).elim
  | succ n ih =>
    intro v3 k_width k_height k_walls k_taken k_place k_gate k_across k_wide k_high k_shape ex hf H locs hP hD hS ls hl K0 K1
    rw [f_Chart_isSameTurned_L9] at hf
    refine lv_iload_n hx hb dX0_isSameTurned_9 rfl (lv_at hl 3 rfl) ?_
    refine lv_iconst (v := 4) hx hb dX0_isSameTurned_10 (by decide) ?_
    refine lv_icmp_ge (tgt := 34) hx hb dX0_isSameTurned_11 (by decide) (fun c_2 => ?_) (fun c_2 => ?_)
    · replace hf := ob_pos c_2 hf
      cases hf
      exact K1 _ _ _ _ _ _ _ _ _ _ rfl _ _ hP hD hS ls (lv_sub hl [0, 1, 2] rfl)
    · replace hf := ob_neg c_2 hf
      refine lv_aload_n hx hb dX0_isSameTurned_14 rfl (lv_at hl 0 rfl) ?_
      replace hf := ob_b hf
      obtain ⟨⟨k_width_3, k_height_4, k_walls_5, k_taken_6, k_place_7, k_gate_8, k_across_9, k_wide_10, k_high_11, k_shape_12⟩, hc_13, hf⟩ := hf
      replace hf := ob_un10 hf
      have hPc := hP.sub (ws' := [(a_t, .inr (0, [.int k_width, .int k_height, .int k_barges, .long k_walls, .long k_taken, .ref a_kind, .ref a_place, .ref a_length, .ref a_gate, .ref a_across, .ref a_wide, .ref a_high, .ref a_shape])), (a_kind, .inl (cT 0, 12, .inl k_kind)), (a_place, .inl (cT 0, 12, .inl k_place)), (a_length, .inl (cT 0, 12, .inl k_length)), (a_gate, .inl (cT 0, 12, .inl k_gate)), (a_across, .inl (cT 2, 12, .inl k_across)), (a_wide, .inl (cT 0, 12, .inl k_wide)), (a_high, .inl (cT 0, 12, .inl k_high)), (a_shape, .inl (cT 1, 12, .inr (.inl k_shape)))]) [0, 1, 2, 3, 4, 5, 6, 7, 8] rfl
      have hDc := hD.sub (ws' := [(a_t, .inr (0, [.int k_width, .int k_height, .int k_barges, .long k_walls, .long k_taken, .ref a_kind, .ref a_place, .ref a_length, .ref a_gate, .ref a_across, .ref a_wide, .ref a_high, .ref a_shape])), (a_kind, .inl (cT 0, 12, .inl k_kind)), (a_place, .inl (cT 0, 12, .inl k_place)), (a_length, .inl (cT 0, 12, .inl k_length)), (a_gate, .inl (cT 0, 12, .inl k_gate)), (a_across, .inl (cT 2, 12, .inl k_across)), (a_wide, .inl (cT 0, 12, .inl k_wide)), (a_high, .inl (cT 0, 12, .inl k_high)), (a_shape, .inl (cT 1, 12, .inr (.inl k_shape)))]) [0, 1, 2, 3, 4, 5, 6, 7, 8] (by decide) rfl
      have hFc := va_free (wc := [(a_t, .inr (0, [.int k_width, .int k_height, .int k_barges, .long k_walls, .long k_taken, .ref a_kind, .ref a_place, .ref a_length, .ref a_gate, .ref a_across, .ref a_wide, .ref a_high, .ref a_shape])), (a_kind, .inl (cT 0, 12, .inl k_kind)), (a_place, .inl (cT 0, 12, .inl k_place)), (a_length, .inl (cT 0, 12, .inl k_length)), (a_gate, .inl (cT 0, 12, .inl k_gate)), (a_across, .inl (cT 2, 12, .inl k_across)), (a_wide, .inl (cT 0, 12, .inl k_wide)), (a_high, .inl (cT 0, 12, .inl k_high)), (a_shape, .inl (cT 1, 12, .inr (.inl k_shape)))]) hD hS hA [0, 1, 2, 3, 4, 5, 6, 7, 8] rfl
      refine va_callv (va_runV (As := []) (rest := []) ⟨hx, hb, hml, hown, hts⟩ (c_f_Chart_quarter l D cT H.size a_t a_kind a_place a_length a_gate a_across a_wide a_high a_shape k_width k_height k_barges k_walls k_taken k_kind k_place k_length k_gate k_across k_wide k_high k_shape _ _ _ _ _ _ _ _ _ _ hc_13) (cwV 0 hts gX0_isSameTurned_X0_quarter rfl rfl rfl (by decide +kernel) ⟨Nat.le_of_ble_eq_true rfl, Nat.le_of_ble_eq_true rfl⟩) ⟨fun a U g mk q => by obtain ⟨q0, q1, qP, qK, qN, qD⟩ := q; exact ⟨q0, q1, qP, va_K.moved (u := U) (U := U.calling g mk a) (Vm.Alike.refl U.vm) qK, jNw_same (u := U) (U := U.calling g mk a) rfl qN, qD⟩, va_recv hK hP (ci := 0) (q0 := 0) rfl rfl, fun U hU hW => ⟨rfl, by rw [hU], by rw [hU]; exact hPc, va_K.moved hW.alike hK, jNw_warm hW hN, hDc.weaken (fun _ _ _ _ => trivial)⟩⟩ rfl rfl hl.1 rfl (lv_room (Nat.le_of_ble_eq_true rfl)) dX0_isSameTurned_15 ⟨Nat.le_of_ble_eq_true rfl, Nat.le_of_ble_eq_true rfl⟩) hS (fun q _ h => hFc q h) hFc (fun u t H1 locs ht hvm er_14 hB hz1 hk1 hS => ?_)
      obtain ⟨hP1, hK1, hD1⟩ := hB
      rw [ht] at hP1
      have hPD := va_join (wr := [(a_p1, .inr (0, [.int k_p1_width, .int k_p1_height, .int k_p1_barges, .long k_p1_walls, .long k_p1_taken, .ref a_p1_kind, .ref a_p1_place, .ref a_p1_length, .ref a_p1_gate, .ref a_p1_across, .ref a_p1_wide, .ref a_p1_high, .ref a_p1_shape])), (a_p1_kind, .inl (cT 0, 12, .inl k_p1_kind)), (a_p1_place, .inl (cT 0, 12, .inl k_p1_place)), (a_p1_length, .inl (cT 0, 12, .inl k_p1_length)), (a_p1_gate, .inl (cT 0, 12, .inl k_p1_gate)), (a_p1_across, .inl (cT 2, 12, .inl k_p1_across)), (a_p1_shape, .inl (cT 1, 12, .inr (.inl k_p1_shape)))]) (w1 := [(a_t, .inr (0, [.int k_width_3, .int k_height_4, .int k_barges, .long k_walls_5, .long k_taken_6, .ref a_kind, .ref a_place, .ref a_length, .ref a_gate, .ref a_across, .ref a_wide, .ref a_high, .ref a_shape])), (a_kind, .inl (cT 0, 12, .inl k_kind)), (a_place, .inl (cT 0, 12, .inl k_place_7)), (a_length, .inl (cT 0, 12, .inl k_length)), (a_gate, .inl (cT 0, 12, .inl k_gate_8)), (a_across, .inl (cT 2, 12, .inl k_across_9)), (a_wide, .inl (cT 0, 12, .inl k_wide_10)), (a_high, .inl (cT 0, 12, .inl k_high_11)), (a_shape, .inl (cT 1, 12, .inr (.inl k_shape_12)))]) hP hD [0, 1, 2, 3, 4, 5, 6, 7, 8] [9, 10, 11, 12, 13, 14, 15] rfl rfl (by decide) (by decide) hk1 hFc hP1 hD1
      clear hP hD
      obtain ⟨hP, hD⟩ := hPD
      replace hP := hP.sub (ws' := [(a_t, .inr (0, [.int k_width_3, .int k_height_4, .int k_barges, .long k_walls_5, .long k_taken_6, .ref a_kind, .ref a_place, .ref a_length, .ref a_gate, .ref a_across, .ref a_wide, .ref a_high, .ref a_shape])), (a_kind, .inl (cT 0, 12, .inl k_kind)), (a_place, .inl (cT 0, 12, .inl k_place_7)), (a_length, .inl (cT 0, 12, .inl k_length)), (a_gate, .inl (cT 0, 12, .inl k_gate_8)), (a_across, .inl (cT 2, 12, .inl k_across_9)), (a_wide, .inl (cT 0, 12, .inl k_wide_10)), (a_high, .inl (cT 0, 12, .inl k_high_11)), (a_shape, .inl (cT 1, 12, .inr (.inl k_shape_12))), (a_p1, .inr (0, [.int k_p1_width, .int k_p1_height, .int k_p1_barges, .long k_p1_walls, .long k_p1_taken, .ref a_p1_kind, .ref a_p1_place, .ref a_p1_length, .ref a_p1_gate, .ref a_p1_across, .ref a_p1_wide, .ref a_p1_high, .ref a_p1_shape])), (a_p1_kind, .inl (cT 0, 12, .inl k_p1_kind)), (a_p1_place, .inl (cT 0, 12, .inl k_p1_place)), (a_p1_length, .inl (cT 0, 12, .inl k_p1_length)), (a_p1_gate, .inl (cT 0, 12, .inl k_p1_gate)), (a_p1_across, .inl (cT 2, 12, .inl k_p1_across)), (a_p1_shape, .inl (cT 1, 12, .inr (.inl k_p1_shape)))]) [7, 8, 9, 10, 11, 12, 13, 14, 15, 0, 1, 2, 3, 4, 5, 6] rfl
      replace hD := hD.sub (ws' := [(a_t, .inr (0, [.int k_width_3, .int k_height_4, .int k_barges, .long k_walls_5, .long k_taken_6, .ref a_kind, .ref a_place, .ref a_length, .ref a_gate, .ref a_across, .ref a_wide, .ref a_high, .ref a_shape])), (a_kind, .inl (cT 0, 12, .inl k_kind)), (a_place, .inl (cT 0, 12, .inl k_place_7)), (a_length, .inl (cT 0, 12, .inl k_length)), (a_gate, .inl (cT 0, 12, .inl k_gate_8)), (a_across, .inl (cT 2, 12, .inl k_across_9)), (a_wide, .inl (cT 0, 12, .inl k_wide_10)), (a_high, .inl (cT 0, 12, .inl k_high_11)), (a_shape, .inl (cT 1, 12, .inr (.inl k_shape_12))), (a_p1, .inr (0, [.int k_p1_width, .int k_p1_height, .int k_p1_barges, .long k_p1_walls, .long k_p1_taken, .ref a_p1_kind, .ref a_p1_place, .ref a_p1_length, .ref a_p1_gate, .ref a_p1_across, .ref a_p1_wide, .ref a_p1_high, .ref a_p1_shape])), (a_p1_kind, .inl (cT 0, 12, .inl k_p1_kind)), (a_p1_place, .inl (cT 0, 12, .inl k_p1_place)), (a_p1_length, .inl (cT 0, 12, .inl k_p1_length)), (a_p1_gate, .inl (cT 0, 12, .inl k_p1_gate)), (a_p1_across, .inl (cT 2, 12, .inl k_p1_across)), (a_p1_shape, .inl (cT 1, 12, .inr (.inl k_p1_shape)))]) [7, 8, 9, 10, 11, 12, 13, 14, 15, 0, 1, 2, 3, 4, 5, 6] (by decide) rfl
      clear hPc hDc hFc hP1 hK1 hD1 hk1 hz1
      generalize H1 = H at hP hS ⊢
      refine lv_aload_n hx hb dX0_isSameTurned_18 rfl (lv_at hl 0 rfl) ?_
      refine lv_aload_n hx hb dX0_isSameTurned_19 rfl (lv_at hl 1 rfl) ?_
      replace hf := ob_b hf
      obtain ⟨zr_15, hc_16, hf⟩ := hf
      refine vp_callSi (W.runV (As := [.ref a_p1]) (rest := []) ⟨hx, hb, hml, hown, hts⟩ (c_f_Chart_isSame l D cT a_t a_p1 a_kind a_place a_length a_gate a_across a_wide a_high a_shape a_p1_kind a_p1_place a_p1_length a_p1_gate a_p1_across a_p1_wide a_p1_high a_p1_shape k_width_3 k_height_4 k_barges k_walls_5 k_taken_6 k_kind k_place_7 k_length k_gate_8 k_across_9 k_p1_width k_p1_height k_p1_barges k_p1_walls k_p1_taken k_p1_kind k_p1_place k_p1_length k_p1_gate k_p1_across k_p1_shape _ hc_16) (cwV 1 hts gX0_isSameTurned_X0_isSame rfl rfl rfl (by decide +kernel) ⟨Nat.le_of_ble_eq_true rfl, Nat.le_of_ble_eq_true rfl⟩) ⟨fun a U g mk q => by obtain ⟨q0, qP, qK, qN⟩ := q; exact ⟨q0, qP, va_K.moved (u := U) (U := U.calling g mk a) (Vm.Alike.refl U.vm) qK, jNw_same (u := U) (U := U.calling g mk a) rfl qN⟩, va_recv hK hP (ci := 0) (q0 := 0) rfl rfl, fun U hU hW => ⟨rfl, by rw [hU]; exact hP.sub [0, 1, 2, 3, 4, 5, 9, 10, 11, 12, 13, 14, 15] rfl, va_K.moved hW.alike hK, jNw_warm hW hN⟩⟩ rfl rfl hl.1 rfl (lv_room (Nat.le_of_ble_eq_true rfl)) dX0_isSameTurned_20 ⟨Nat.le_of_ble_eq_true rfl, Nat.le_of_ble_eq_true rfl⟩) (fun r_15 er_17 => ?_)
      subst er_17
      refine lv_if_eq (tgt := 28) hx hb dX0_isSameTurned_23 (by decide) (fun c_18 => ?_) (fun c_18 => ?_)
      · replace hf := ob_pos c_18 hf
        obtain ⟨v3_19, ev3_19⟩ : ∃ y : Int32, y = v3 + 1 := ⟨_, rfl⟩
        replace hf := ob_nm ev3_19 hf
        refine lv_iinc (v := v3_19) (lv' := [(3, .int v3_19), (0, .ref a_t), (1, .ref a_p1), (2, .int v2)]) hx hb dX0_isSameTurned_28 hl (k := 3) rfl (by rw [ev3_19]; rfl) (by decide) rfl (fun ls hl => ?_)
        refine lv_goto (tgt := 9) hx hb dX0_isSameTurned_31 (by decide) ?_
        exact ih _ _ _ _ _ _ _ _ _ _ _ ex hf _ _ hP hD hS ls (lv_sub hl [1, 2, 3, 0] rfl) K0 K1
      · replace hf := ob_neg c_18 hf
        cases hf
        exact K0 _ _ _ _ _ _ _ _ _ _ rfl _ _ hP hD hS ls (lv_sub hl [] rfl)
set_option maxHeartbeats 4000000 in
set_option maxRecDepth 100000 in
theorem l_f_Chart_isSameTurned_L2 {p : Program} {l : Launch} {e : Env} {s : State} {m : MethodId} {args : Array Value} {below : List Frame} {meth : Method} {c : Code} {Q : State → Prop} {A : Nat → Prop} {D : va_G} {cT : Nat → ClassId} {a_t a_p1 a_kind a_place a_length a_gate a_across a_wide a_high a_shape a_p1_kind a_p1_place a_p1_length a_p1_gate a_p1_across a_p1_wide a_p1_high a_p1_shape : Nat} {k_barges : Int32} {k_kind : Nat → Int32} {k_length : Nat → Int32} {k_p1_width : Int32} {k_p1_height : Int32} {k_p1_barges : Int32} {k_p1_walls : Int64} {k_p1_taken : Int64} {k_p1_kind : Nat → Int32} {k_p1_place : Nat → Int32} {k_p1_length : Nat → Int32} {k_p1_gate : Nat → Int32} {k_p1_across : Nat → Int32} {k_p1_shape : Nat → Int64} (hx : p.tables.exec = Jvm.exec) (hb : c.code = cX0_isSameTurned) (hml : c.maxLocals = 4) (hown : s.vm.findClass RX0 = some m.cls) (hts : ∀ w ∈ wsX0_isSameTurned, w.before args s = true) (hK : va_K D vwCl (jT cT) s) (hN : jNw s) (hA : ∀ q : Nat, s.heap.size ≤ q → A q) : ∀ (n : Nat) (v2 : Int32) (k_width : Int32) (k_height : Int32) (k_walls : Int64) (k_taken : Int64) (k_place : Nat → Int32) (k_gate : Nat → Int32) (k_across : Nat → Int32) (k_wide : Nat → Int32) (k_high : Nat → Int32) (k_shape : Nat → Int64) (ex : ((Int32) × (Int32) × (Int64) × (Int64) × (Nat → Int32) × (Nat → Int32) × (Nat → Int32) × (Nat → Int32) × (Nat → Int32) × (Nat → Int64)) ⊕ ((Int32) × (Int32) × (Int64) × (Int64) × (Nat → Int32) × (Nat → Int32) × (Nat → Int32) × (Nat → Int32) × (Nat → Int32) × (Nat → Int64))), f_Chart_isSameTurned_L2 k_barges k_kind k_length k_p1_width k_p1_height k_p1_barges k_p1_walls k_p1_taken k_p1_kind k_p1_place k_p1_length k_p1_gate k_p1_across k_p1_shape n v2 k_width k_height k_walls k_taken k_place k_gate k_across k_wide k_high k_shape = some ex → ∀ (H : Heap) (locs : List Loc), va_P D vwCl [(a_t, .inr (0, [.int k_width, .int k_height, .int k_barges, .long k_walls, .long k_taken, .ref a_kind, .ref a_place, .ref a_length, .ref a_gate, .ref a_across, .ref a_wide, .ref a_high, .ref a_shape])), (a_kind, .inl (cT 0, 12, .inl k_kind)), (a_place, .inl (cT 0, 12, .inl k_place)), (a_length, .inl (cT 0, 12, .inl k_length)), (a_gate, .inl (cT 0, 12, .inl k_gate)), (a_across, .inl (cT 2, 12, .inl k_across)), (a_wide, .inl (cT 0, 12, .inl k_wide)), (a_high, .inl (cT 0, 12, .inl k_high)), (a_shape, .inl (cT 1, 12, .inr (.inl k_shape))), (a_p1, .inr (0, [.int k_p1_width, .int k_p1_height, .int k_p1_barges, .long k_p1_walls, .long k_p1_taken, .ref a_p1_kind, .ref a_p1_place, .ref a_p1_length, .ref a_p1_gate, .ref a_p1_across, .ref a_p1_wide, .ref a_p1_high, .ref a_p1_shape])), (a_p1_kind, .inl (cT 0, 12, .inl k_p1_kind)), (a_p1_place, .inl (cT 0, 12, .inl k_p1_place)), (a_p1_length, .inl (cT 0, 12, .inl k_p1_length)), (a_p1_gate, .inl (cT 0, 12, .inl k_p1_gate)), (a_p1_across, .inl (cT 2, 12, .inl k_p1_across)), (a_p1_shape, .inl (cT 1, 12, .inr (.inl k_p1_shape)))] H → va_D A [(a_t, .inr (0, [.int k_width, .int k_height, .int k_barges, .long k_walls, .long k_taken, .ref a_kind, .ref a_place, .ref a_length, .ref a_gate, .ref a_across, .ref a_wide, .ref a_high, .ref a_shape])), (a_kind, .inl (cT 0, 12, .inl k_kind)), (a_place, .inl (cT 0, 12, .inl k_place)), (a_length, .inl (cT 0, 12, .inl k_length)), (a_gate, .inl (cT 0, 12, .inl k_gate)), (a_across, .inl (cT 2, 12, .inl k_across)), (a_wide, .inl (cT 0, 12, .inl k_wide)), (a_high, .inl (cT 0, 12, .inl k_high)), (a_shape, .inl (cT 1, 12, .inr (.inl k_shape))), (a_p1, .inr (0, [.int k_p1_width, .int k_p1_height, .int k_p1_barges, .long k_p1_walls, .long k_p1_taken, .ref a_p1_kind, .ref a_p1_place, .ref a_p1_length, .ref a_p1_gate, .ref a_p1_across, .ref a_p1_wide, .ref a_p1_high, .ref a_p1_shape])), (a_p1_kind, .inl (cT 0, 12, .inl k_p1_kind)), (a_p1_place, .inl (cT 0, 12, .inl k_p1_place)), (a_p1_length, .inl (cT 0, 12, .inl k_p1_length)), (a_p1_gate, .inl (cT 0, 12, .inl k_p1_gate)), (a_p1_across, .inl (cT 2, 12, .inl k_p1_across)), (a_p1_shape, .inl (cT 1, 12, .inr (.inl k_p1_shape)))] → va_S A s.heap H locs → ∀ (ls : Array Slot), lv_has ls 4 [(0, .ref a_t), (1, .ref a_p1), (2, .int v2)] → (∀ (k_width_71 : Int32) (k_height_72 : Int32) (k_walls_73 : Int64) (k_taken_74 : Int64) (k_place_75 : Nat → Int32) (k_gate_76 : Nat → Int32) (k_across_77 : Nat → Int32) (k_wide_78 : Nat → Int32) (k_high_79 : Nat → Int32) (k_shape_80 : Nat → Int64), ex = .inl ((k_width_71, k_height_72, k_walls_73, k_taken_74, k_place_75, k_gate_76, k_across_77, k_wide_78, k_high_79, k_shape_80)) → ∀ (H : Heap) (locs : List Loc), va_P D vwCl [(a_t, .inr (0, [.int k_width_71, .int k_height_72, .int k_barges, .long k_walls_73, .long k_taken_74, .ref a_kind, .ref a_place, .ref a_length, .ref a_gate, .ref a_across, .ref a_wide, .ref a_high, .ref a_shape])), (a_kind, .inl (cT 0, 12, .inl k_kind)), (a_place, .inl (cT 0, 12, .inl k_place_75)), (a_length, .inl (cT 0, 12, .inl k_length)), (a_gate, .inl (cT 0, 12, .inl k_gate_76)), (a_across, .inl (cT 2, 12, .inl k_across_77)), (a_wide, .inl (cT 0, 12, .inl k_wide_78)), (a_high, .inl (cT 0, 12, .inl k_high_79)), (a_shape, .inl (cT 1, 12, .inr (.inl k_shape_80))), (a_p1, .inr (0, [.int k_p1_width, .int k_p1_height, .int k_p1_barges, .long k_p1_walls, .long k_p1_taken, .ref a_p1_kind, .ref a_p1_place, .ref a_p1_length, .ref a_p1_gate, .ref a_p1_across, .ref a_p1_wide, .ref a_p1_high, .ref a_p1_shape])), (a_p1_kind, .inl (cT 0, 12, .inl k_p1_kind)), (a_p1_place, .inl (cT 0, 12, .inl k_p1_place)), (a_p1_length, .inl (cT 0, 12, .inl k_p1_length)), (a_p1_gate, .inl (cT 0, 12, .inl k_p1_gate)), (a_p1_across, .inl (cT 2, 12, .inl k_p1_across)), (a_p1_shape, .inl (cT 1, 12, .inr (.inl k_p1_shape)))] H → va_D A [(a_t, .inr (0, [.int k_width_71, .int k_height_72, .int k_barges, .long k_walls_73, .long k_taken_74, .ref a_kind, .ref a_place, .ref a_length, .ref a_gate, .ref a_across, .ref a_wide, .ref a_high, .ref a_shape])), (a_kind, .inl (cT 0, 12, .inl k_kind)), (a_place, .inl (cT 0, 12, .inl k_place_75)), (a_length, .inl (cT 0, 12, .inl k_length)), (a_gate, .inl (cT 0, 12, .inl k_gate_76)), (a_across, .inl (cT 2, 12, .inl k_across_77)), (a_wide, .inl (cT 0, 12, .inl k_wide_78)), (a_high, .inl (cT 0, 12, .inl k_high_79)), (a_shape, .inl (cT 1, 12, .inr (.inl k_shape_80))), (a_p1, .inr (0, [.int k_p1_width, .int k_p1_height, .int k_p1_barges, .long k_p1_walls, .long k_p1_taken, .ref a_p1_kind, .ref a_p1_place, .ref a_p1_length, .ref a_p1_gate, .ref a_p1_across, .ref a_p1_wide, .ref a_p1_high, .ref a_p1_shape])), (a_p1_kind, .inl (cT 0, 12, .inl k_p1_kind)), (a_p1_place, .inl (cT 0, 12, .inl k_p1_place)), (a_p1_length, .inl (cT 0, 12, .inl k_p1_length)), (a_p1_gate, .inl (cT 0, 12, .inl k_p1_gate)), (a_p1_across, .inl (cT 2, 12, .inl k_p1_across)), (a_p1_shape, .inl (cT 1, 12, .inr (.inl k_p1_shape)))] → va_S A s.heap H locs → ∀ (ls : Array Slot), lv_has ls 4 [] → W p l e (headSpec wsX0_isSameTurned rm_Chart_isSameTurned).room s m args below meth c H locs 0 0 Q (F0 m 26 ls [])) → (∀ (k_width_81 : Int32) (k_height_82 : Int32) (k_walls_83 : Int64) (k_taken_84 : Int64) (k_place_85 : Nat → Int32) (k_gate_86 : Nat → Int32) (k_across_87 : Nat → Int32) (k_wide_88 : Nat → Int32) (k_high_89 : Nat → Int32) (k_shape_90 : Nat → Int64), ex = .inr ((k_width_81, k_height_82, k_walls_83, k_taken_84, k_place_85, k_gate_86, k_across_87, k_wide_88, k_high_89, k_shape_90)) → ∀ (H : Heap) (locs : List Loc), va_P D vwCl [(a_t, .inr (0, [.int k_width_81, .int k_height_82, .int k_barges, .long k_walls_83, .long k_taken_84, .ref a_kind, .ref a_place, .ref a_length, .ref a_gate, .ref a_across, .ref a_wide, .ref a_high, .ref a_shape])), (a_kind, .inl (cT 0, 12, .inl k_kind)), (a_place, .inl (cT 0, 12, .inl k_place_85)), (a_length, .inl (cT 0, 12, .inl k_length)), (a_gate, .inl (cT 0, 12, .inl k_gate_86)), (a_across, .inl (cT 2, 12, .inl k_across_87)), (a_wide, .inl (cT 0, 12, .inl k_wide_88)), (a_high, .inl (cT 0, 12, .inl k_high_89)), (a_shape, .inl (cT 1, 12, .inr (.inl k_shape_90))), (a_p1, .inr (0, [.int k_p1_width, .int k_p1_height, .int k_p1_barges, .long k_p1_walls, .long k_p1_taken, .ref a_p1_kind, .ref a_p1_place, .ref a_p1_length, .ref a_p1_gate, .ref a_p1_across, .ref a_p1_wide, .ref a_p1_high, .ref a_p1_shape])), (a_p1_kind, .inl (cT 0, 12, .inl k_p1_kind)), (a_p1_place, .inl (cT 0, 12, .inl k_p1_place)), (a_p1_length, .inl (cT 0, 12, .inl k_p1_length)), (a_p1_gate, .inl (cT 0, 12, .inl k_p1_gate)), (a_p1_across, .inl (cT 2, 12, .inl k_p1_across)), (a_p1_shape, .inl (cT 1, 12, .inr (.inl k_p1_shape)))] H → va_D A [(a_t, .inr (0, [.int k_width_81, .int k_height_82, .int k_barges, .long k_walls_83, .long k_taken_84, .ref a_kind, .ref a_place, .ref a_length, .ref a_gate, .ref a_across, .ref a_wide, .ref a_high, .ref a_shape])), (a_kind, .inl (cT 0, 12, .inl k_kind)), (a_place, .inl (cT 0, 12, .inl k_place_85)), (a_length, .inl (cT 0, 12, .inl k_length)), (a_gate, .inl (cT 0, 12, .inl k_gate_86)), (a_across, .inl (cT 2, 12, .inl k_across_87)), (a_wide, .inl (cT 0, 12, .inl k_wide_88)), (a_high, .inl (cT 0, 12, .inl k_high_89)), (a_shape, .inl (cT 1, 12, .inr (.inl k_shape_90))), (a_p1, .inr (0, [.int k_p1_width, .int k_p1_height, .int k_p1_barges, .long k_p1_walls, .long k_p1_taken, .ref a_p1_kind, .ref a_p1_place, .ref a_p1_length, .ref a_p1_gate, .ref a_p1_across, .ref a_p1_wide, .ref a_p1_high, .ref a_p1_shape])), (a_p1_kind, .inl (cT 0, 12, .inl k_p1_kind)), (a_p1_place, .inl (cT 0, 12, .inl k_p1_place)), (a_p1_length, .inl (cT 0, 12, .inl k_p1_length)), (a_p1_gate, .inl (cT 0, 12, .inl k_p1_gate)), (a_p1_across, .inl (cT 2, 12, .inl k_p1_across)), (a_p1_shape, .inl (cT 1, 12, .inr (.inl k_p1_shape)))] → va_S A s.heap H locs → ∀ (ls : Array Slot), lv_has ls 4 [] → W p l e (headSpec wsX0_isSameTurned rm_Chart_isSameTurned).room s m args below meth c H locs 0 0 Q (F0 m 44 ls [])) → W p l e (headSpec wsX0_isSameTurned rm_Chart_isSameTurned).room s m args below meth c H locs 0 0 Q (F0 m 2 ls []) := by
  intro n
  induction n with
  | zero => intro v2 k_width k_height k_walls k_taken k_place k_gate k_across k_wide k_high k_shape ex hf; exact (ob_none hf).elim
  | succ n ih =>
    intro v2 k_width k_height k_walls k_taken k_place k_gate k_across k_wide k_high k_shape ex hf H locs hP hD hS ls hl K0 K1
    rw [f_Chart_isSameTurned_L2] at hf
    refine lv_iload_n hx hb dX0_isSameTurned_2 rfl (lv_at hl 2 rfl) ?_
    refine lv_iconst (v := 2) hx hb dX0_isSameTurned_3 (by decide) ?_
    refine lv_icmp_ge (tgt := 44) hx hb dX0_isSameTurned_4 (by decide) (fun c_1 => ?_) (fun c_1 => ?_)
    · replace hf := ob_pos c_1 hf
      cases hf
      exact K1 _ _ _ _ _ _ _ _ _ _ rfl _ _ hP hD hS ls (lv_sub hl [] rfl)
    · replace hf := ob_neg c_1 hf
      refine lv_iconst (v := 0) hx hb dX0_isSameTurned_7 (by decide) ?_
      refine lv_istore_n (lv' := [(3, .int ((0 : Int32))), (0, .ref a_t), (1, .ref a_p1), (2, .int v2)]) hx hb dX0_isSameTurned_8 rfl hl (by decide) rfl (fun ls hl => ?_)
      replace hf := ob_b hf
      obtain ⟨ex_40, hq_41, hf⟩ := hf
      refine l_f_Chart_isSameTurned_L9 hx hb hml hown hts hK hN hA jN _ _ _ _ _ _ _ _ _ _ _ ex_40 hq_41 _ _ hP hD hS ls (lv_sub hl [1, 2, 3, 0] rfl) (fun k_width_42 k_height_43 k_walls_44 k_taken_45 k_place_46 k_gate_47 k_across_48 k_wide_49 k_high_50 k_shape_51 ee_52 H locs hP hD hS ls hl => ?_) (fun k_width_53 k_height_54 k_walls_55 k_taken_56 k_place_57 k_gate_58 k_across_59 k_wide_60 k_high_61 k_shape_62 ee_70 H locs hP hD hS ls hl => ?_)
      · subst ee_52
        replace hf := ob_inl hf
        replace hf := ob_un10 hf
        cases hf
        exact K0 _ _ _ _ _ _ _ _ _ _ rfl _ _ hP hD hS ls (lv_sub hl [] rfl)
      · subst ee_70
        replace hf := ob_inr hf
        replace hf := ob_un10 hf
        refine lv_aload_n hx hb dX0_isSameTurned_34 rfl (lv_at hl 0 rfl) ?_
        replace hf := ob_b hf
        obtain ⟨⟨k_walls_63, k_taken_64, k_place_65, k_gate_66⟩, hc_67, hf⟩ := hf
        replace hf := ob_un4 hf
        have hPc := hP.sub (ws' := [(a_t, .inr (0, [.int k_width_53, .int k_height_54, .int k_barges, .long k_walls_55, .long k_taken_56, .ref a_kind, .ref a_place, .ref a_length, .ref a_gate, .ref a_across, .ref a_wide, .ref a_high, .ref a_shape])), (a_place, .inl (cT 0, 12, .inl k_place_57)), (a_gate, .inl (cT 0, 12, .inl k_gate_58)), (a_wide, .inl (cT 0, 12, .inl k_wide_60)), (a_shape, .inl (cT 1, 12, .inr (.inl k_shape_62)))]) [0, 2, 4, 6, 8] rfl
        have hDc := hD.sub (ws' := [(a_t, .inr (0, [.int k_width_53, .int k_height_54, .int k_barges, .long k_walls_55, .long k_taken_56, .ref a_kind, .ref a_place, .ref a_length, .ref a_gate, .ref a_across, .ref a_wide, .ref a_high, .ref a_shape])), (a_place, .inl (cT 0, 12, .inl k_place_57)), (a_gate, .inl (cT 0, 12, .inl k_gate_58)), (a_wide, .inl (cT 0, 12, .inl k_wide_60)), (a_shape, .inl (cT 1, 12, .inr (.inl k_shape_62)))]) [0, 2, 4, 6, 8] (by decide) rfl
        have hFc := va_free (wc := [(a_t, .inr (0, [.int k_width_53, .int k_height_54, .int k_barges, .long k_walls_55, .long k_taken_56, .ref a_kind, .ref a_place, .ref a_length, .ref a_gate, .ref a_across, .ref a_wide, .ref a_high, .ref a_shape])), (a_place, .inl (cT 0, 12, .inl k_place_57)), (a_gate, .inl (cT 0, 12, .inl k_gate_58)), (a_wide, .inl (cT 0, 12, .inl k_wide_60)), (a_shape, .inl (cT 1, 12, .inr (.inl k_shape_62)))]) hD hS hA [0, 2, 4, 6, 8] rfl
        refine va_callv (va_runV (As := []) (rest := []) ⟨hx, hb, hml, hown, hts⟩ (c_f_Chart_mirror l D cT H.size a_t a_kind a_place a_length a_gate a_across a_wide a_high a_shape k_width_53 k_height_54 k_barges k_walls_55 k_taken_56 k_place_57 k_gate_58 k_wide_60 k_shape_62 _ _ _ _ hc_67) (cwV 0 hts gX0_isSameTurned_X0_mirror rfl rfl rfl (by decide +kernel) ⟨Nat.le_of_ble_eq_true rfl, Nat.le_of_ble_eq_true rfl⟩) ⟨fun a U g mk q => by obtain ⟨q0, q1, qP, qK, qN, qD⟩ := q; exact ⟨q0, q1, qP, va_K.moved (u := U) (U := U.calling g mk a) (Vm.Alike.refl U.vm) qK, jNw_same (u := U) (U := U.calling g mk a) rfl qN, qD⟩, va_recv hK hP (ci := 0) (q0 := 0) rfl rfl, fun U hU hW => ⟨rfl, by rw [hU], by rw [hU]; exact hPc, va_K.moved hW.alike hK, jNw_warm hW hN, hDc.weaken (fun _ _ _ _ => trivial)⟩⟩ rfl rfl hl.1 rfl (lv_room (Nat.le_of_ble_eq_true rfl)) dX0_isSameTurned_35 ⟨Nat.le_of_ble_eq_true rfl, Nat.le_of_ble_eq_true rfl⟩) hS (fun q _ h => hFc q h) hFc (fun u t H1 locs ht hvm er_68 hB hz1 hk1 hS => ?_)
        obtain ⟨hP1, hK1, hD1⟩ := hB
        rw [ht] at hP1
        have hPD := va_join (wr := [(a_kind, .inl (cT 0, 12, .inl k_kind)), (a_length, .inl (cT 0, 12, .inl k_length)), (a_across, .inl (cT 2, 12, .inl k_across_59)), (a_high, .inl (cT 0, 12, .inl k_high_61)), (a_p1, .inr (0, [.int k_p1_width, .int k_p1_height, .int k_p1_barges, .long k_p1_walls, .long k_p1_taken, .ref a_p1_kind, .ref a_p1_place, .ref a_p1_length, .ref a_p1_gate, .ref a_p1_across, .ref a_p1_wide, .ref a_p1_high, .ref a_p1_shape])), (a_p1_kind, .inl (cT 0, 12, .inl k_p1_kind)), (a_p1_place, .inl (cT 0, 12, .inl k_p1_place)), (a_p1_length, .inl (cT 0, 12, .inl k_p1_length)), (a_p1_gate, .inl (cT 0, 12, .inl k_p1_gate)), (a_p1_across, .inl (cT 2, 12, .inl k_p1_across)), (a_p1_shape, .inl (cT 1, 12, .inr (.inl k_p1_shape)))]) (w1 := [(a_t, .inr (0, [.int k_width_53, .int k_height_54, .int k_barges, .long k_walls_63, .long k_taken_64, .ref a_kind, .ref a_place, .ref a_length, .ref a_gate, .ref a_across, .ref a_wide, .ref a_high, .ref a_shape])), (a_place, .inl (cT 0, 12, .inl k_place_65)), (a_gate, .inl (cT 0, 12, .inl k_gate_66)), (a_wide, .inl (cT 0, 12, .inl k_wide_60)), (a_shape, .inl (cT 1, 12, .inr (.inl k_shape_62)))]) hP hD [0, 2, 4, 6, 8] [1, 3, 5, 7, 9, 10, 11, 12, 13, 14, 15] rfl rfl (by decide) (by decide) hk1 hFc hP1 hD1
        clear hP hD
        obtain ⟨hP, hD⟩ := hPD
        replace hP := hP.sub (ws' := [(a_t, .inr (0, [.int k_width_53, .int k_height_54, .int k_barges, .long k_walls_63, .long k_taken_64, .ref a_kind, .ref a_place, .ref a_length, .ref a_gate, .ref a_across, .ref a_wide, .ref a_high, .ref a_shape])), (a_kind, .inl (cT 0, 12, .inl k_kind)), (a_place, .inl (cT 0, 12, .inl k_place_65)), (a_length, .inl (cT 0, 12, .inl k_length)), (a_gate, .inl (cT 0, 12, .inl k_gate_66)), (a_across, .inl (cT 2, 12, .inl k_across_59)), (a_wide, .inl (cT 0, 12, .inl k_wide_60)), (a_high, .inl (cT 0, 12, .inl k_high_61)), (a_shape, .inl (cT 1, 12, .inr (.inl k_shape_62))), (a_p1, .inr (0, [.int k_p1_width, .int k_p1_height, .int k_p1_barges, .long k_p1_walls, .long k_p1_taken, .ref a_p1_kind, .ref a_p1_place, .ref a_p1_length, .ref a_p1_gate, .ref a_p1_across, .ref a_p1_wide, .ref a_p1_high, .ref a_p1_shape])), (a_p1_kind, .inl (cT 0, 12, .inl k_p1_kind)), (a_p1_place, .inl (cT 0, 12, .inl k_p1_place)), (a_p1_length, .inl (cT 0, 12, .inl k_p1_length)), (a_p1_gate, .inl (cT 0, 12, .inl k_p1_gate)), (a_p1_across, .inl (cT 2, 12, .inl k_p1_across)), (a_p1_shape, .inl (cT 1, 12, .inr (.inl k_p1_shape)))]) [11, 0, 12, 1, 13, 2, 14, 3, 15, 4, 5, 6, 7, 8, 9, 10] rfl
        replace hD := hD.sub (ws' := [(a_t, .inr (0, [.int k_width_53, .int k_height_54, .int k_barges, .long k_walls_63, .long k_taken_64, .ref a_kind, .ref a_place, .ref a_length, .ref a_gate, .ref a_across, .ref a_wide, .ref a_high, .ref a_shape])), (a_kind, .inl (cT 0, 12, .inl k_kind)), (a_place, .inl (cT 0, 12, .inl k_place_65)), (a_length, .inl (cT 0, 12, .inl k_length)), (a_gate, .inl (cT 0, 12, .inl k_gate_66)), (a_across, .inl (cT 2, 12, .inl k_across_59)), (a_wide, .inl (cT 0, 12, .inl k_wide_60)), (a_high, .inl (cT 0, 12, .inl k_high_61)), (a_shape, .inl (cT 1, 12, .inr (.inl k_shape_62))), (a_p1, .inr (0, [.int k_p1_width, .int k_p1_height, .int k_p1_barges, .long k_p1_walls, .long k_p1_taken, .ref a_p1_kind, .ref a_p1_place, .ref a_p1_length, .ref a_p1_gate, .ref a_p1_across, .ref a_p1_wide, .ref a_p1_high, .ref a_p1_shape])), (a_p1_kind, .inl (cT 0, 12, .inl k_p1_kind)), (a_p1_place, .inl (cT 0, 12, .inl k_p1_place)), (a_p1_length, .inl (cT 0, 12, .inl k_p1_length)), (a_p1_gate, .inl (cT 0, 12, .inl k_p1_gate)), (a_p1_across, .inl (cT 2, 12, .inl k_p1_across)), (a_p1_shape, .inl (cT 1, 12, .inr (.inl k_p1_shape)))]) [11, 0, 12, 1, 13, 2, 14, 3, 15, 4, 5, 6, 7, 8, 9, 10] (by decide) rfl
        clear hPc hDc hFc hP1 hK1 hD1 hk1 hz1
        generalize H1 = H at hP hS ⊢
        obtain ⟨v2_69, ev2_69⟩ : ∃ y : Int32, y = v2 + 1 := ⟨_, rfl⟩
        replace hf := ob_nm ev2_69 hf
        refine lv_iinc (v := v2_69) (lv' := [(2, .int v2_69), (0, .ref a_t), (1, .ref a_p1)]) hx hb dX0_isSameTurned_38 hl (k := 2) rfl (by rw [ev2_69]; rfl) (by decide) rfl (fun ls hl => ?_)
        refine lv_goto (tgt := 2) hx hb dX0_isSameTurned_41 (by decide) ?_
        exact ih _ _ _ _ _ _ _ _ _ _ _ ex hf _ _ hP hD hS ls (lv_sub hl [1, 2, 0] rfl) K0 K1
set_option maxHeartbeats 4000000 in
set_option maxRecDepth 100000 in
theorem c_f_Chart_isSameTurned (l : Launch) (D : va_G) (cT : Nat → ClassId) (sz : Nat) (a_t a_p1 a_kind a_place a_length a_gate a_across a_wide a_high a_shape a_p1_kind a_p1_place a_p1_length a_p1_gate a_p1_across a_p1_wide a_p1_high a_p1_shape : Nat) (k_width : Int32) (k_height : Int32) (k_barges : Int32) (k_walls : Int64) (k_taken : Int64) (k_kind : Nat → Int32) (k_place : Nat → Int32) (k_length : Nat → Int32) (k_gate : Nat → Int32) (k_across : Nat → Int32) (k_wide : Nat → Int32) (k_high : Nat → Int32) (k_shape : Nat → Int64) (k_p1_width : Int32) (k_p1_height : Int32) (k_p1_barges : Int32) (k_p1_walls : Int64) (k_p1_taken : Int64) (k_p1_kind : Nat → Int32) (k_p1_place : Nat → Int32) (k_p1_length : Nat → Int32) (k_p1_gate : Nat → Int32) (k_p1_across : Nat → Int32) (k_p1_shape : Nat → Int64) (r0 : Int32) (k_width₉ : Int32) (k_height₉ : Int32) (k_walls₉ : Int64) (k_taken₉ : Int64) (k_place₉ : Nat → Int32) (k_gate₉ : Nat → Int32) (k_across₉ : Nat → Int32) (k_wide₉ : Nat → Int32) (k_high₉ : Nat → Int32) (k_shape₉ : Nat → Int64) (hf : f_Chart_isSameTurned k_width k_height k_barges k_walls k_taken k_kind k_place k_length k_gate k_across k_wide k_high k_shape k_p1_width k_p1_height k_p1_barges k_p1_walls k_p1_taken k_p1_kind k_p1_place k_p1_length k_p1_gate k_p1_across k_p1_shape = some (r0, k_width₉, k_height₉, k_walls₉, k_taken₉, k_place₉, k_gate₉, k_across₉, k_wide₉, k_high₉, k_shape₉)) : Met l yX0_isSameTurned wsX0_isSameTurned rm_Chart_isSameTurned (va_Pc [.ref a_t, .ref a_p1] (fun U => U.heap.size = sz ∧ va_P D vwCl [(a_t, .inr (0, [.int k_width, .int k_height, .int k_barges, .long k_walls, .long k_taken, .ref a_kind, .ref a_place, .ref a_length, .ref a_gate, .ref a_across, .ref a_wide, .ref a_high, .ref a_shape])), (a_kind, .inl (cT 0, 12, .inl k_kind)), (a_place, .inl (cT 0, 12, .inl k_place)), (a_length, .inl (cT 0, 12, .inl k_length)), (a_gate, .inl (cT 0, 12, .inl k_gate)), (a_across, .inl (cT 2, 12, .inl k_across)), (a_wide, .inl (cT 0, 12, .inl k_wide)), (a_high, .inl (cT 0, 12, .inl k_high)), (a_shape, .inl (cT 1, 12, .inr (.inl k_shape))), (a_p1, .inr (0, [.int k_p1_width, .int k_p1_height, .int k_p1_barges, .long k_p1_walls, .long k_p1_taken, .ref a_p1_kind, .ref a_p1_place, .ref a_p1_length, .ref a_p1_gate, .ref a_p1_across, .ref a_p1_wide, .ref a_p1_high, .ref a_p1_shape])), (a_p1_kind, .inl (cT 0, 12, .inl k_p1_kind)), (a_p1_place, .inl (cT 0, 12, .inl k_p1_place)), (a_p1_length, .inl (cT 0, 12, .inl k_p1_length)), (a_p1_gate, .inl (cT 0, 12, .inl k_p1_gate)), (a_p1_across, .inl (cT 2, 12, .inl k_p1_across)), (a_p1_shape, .inl (cT 1, 12, .inr (.inl k_p1_shape)))] U.heap ∧ va_K D vwCl (jT cT) U ∧ jNw U ∧ va_D (fun _ => True) [(a_t, .inr (0, [.int k_width, .int k_height, .int k_barges, .long k_walls, .long k_taken, .ref a_kind, .ref a_place, .ref a_length, .ref a_gate, .ref a_across, .ref a_wide, .ref a_high, .ref a_shape])), (a_kind, .inl (cT 0, 12, .inl k_kind)), (a_place, .inl (cT 0, 12, .inl k_place)), (a_length, .inl (cT 0, 12, .inl k_length)), (a_gate, .inl (cT 0, 12, .inl k_gate)), (a_across, .inl (cT 2, 12, .inl k_across)), (a_wide, .inl (cT 0, 12, .inl k_wide)), (a_high, .inl (cT 0, 12, .inl k_high)), (a_shape, .inl (cT 1, 12, .inr (.inl k_shape))), (a_p1, .inr (0, [.int k_p1_width, .int k_p1_height, .int k_p1_barges, .long k_p1_walls, .long k_p1_taken, .ref a_p1_kind, .ref a_p1_place, .ref a_p1_length, .ref a_p1_gate, .ref a_p1_across, .ref a_p1_wide, .ref a_p1_high, .ref a_p1_shape])), (a_p1_kind, .inl (cT 0, 12, .inl k_p1_kind)), (a_p1_place, .inl (cT 0, 12, .inl k_p1_place)), (a_p1_length, .inl (cT 0, 12, .inl k_p1_length)), (a_p1_gate, .inl (cT 0, 12, .inl k_p1_gate)), (a_p1_across, .inl (cT 2, 12, .inl k_p1_across)), (a_p1_shape, .inl (cT 1, 12, .inr (.inl k_p1_shape)))])) (va_Qi (fun r (_ : Unit) => r = r0) (fun (_ : Unit) t => va_P D vwCl [(a_t, .inr (0, [.int k_width₉, .int k_height₉, .int k_barges, .long k_walls₉, .long k_taken₉, .ref a_kind, .ref a_place, .ref a_length, .ref a_gate, .ref a_across, .ref a_wide, .ref a_high, .ref a_shape])), (a_kind, .inl (cT 0, 12, .inl k_kind)), (a_place, .inl (cT 0, 12, .inl k_place₉)), (a_length, .inl (cT 0, 12, .inl k_length)), (a_gate, .inl (cT 0, 12, .inl k_gate₉)), (a_across, .inl (cT 2, 12, .inl k_across₉)), (a_wide, .inl (cT 0, 12, .inl k_wide₉)), (a_high, .inl (cT 0, 12, .inl k_high₉)), (a_shape, .inl (cT 1, 12, .inr (.inl k_shape₉))), (a_p1, .inr (0, [.int k_p1_width, .int k_p1_height, .int k_p1_barges, .long k_p1_walls, .long k_p1_taken, .ref a_p1_kind, .ref a_p1_place, .ref a_p1_length, .ref a_p1_gate, .ref a_p1_across, .ref a_p1_wide, .ref a_p1_high, .ref a_p1_shape])), (a_p1_kind, .inl (cT 0, 12, .inl k_p1_kind)), (a_p1_place, .inl (cT 0, 12, .inl k_p1_place)), (a_p1_length, .inl (cT 0, 12, .inl k_p1_length)), (a_p1_gate, .inl (cT 0, 12, .inl k_p1_gate)), (a_p1_across, .inl (cT 2, 12, .inl k_p1_across)), (a_p1_shape, .inl (cT 1, 12, .inr (.inl k_p1_shape)))] t.heap ∧ va_K D vwCl (jT cT) t ∧ va_D (va_A [(a_t, .inr (0, [.int k_width, .int k_height, .int k_barges, .long k_walls, .long k_taken, .ref a_kind, .ref a_place, .ref a_length, .ref a_gate, .ref a_across, .ref a_wide, .ref a_high, .ref a_shape])), (a_kind, .inl (cT 0, 12, .inl k_kind)), (a_place, .inl (cT 0, 12, .inl k_place)), (a_length, .inl (cT 0, 12, .inl k_length)), (a_gate, .inl (cT 0, 12, .inl k_gate)), (a_across, .inl (cT 2, 12, .inl k_across)), (a_wide, .inl (cT 0, 12, .inl k_wide)), (a_high, .inl (cT 0, 12, .inl k_high)), (a_shape, .inl (cT 1, 12, .inr (.inl k_shape))), (a_p1, .inr (0, [.int k_p1_width, .int k_p1_height, .int k_p1_barges, .long k_p1_walls, .long k_p1_taken, .ref a_p1_kind, .ref a_p1_place, .ref a_p1_length, .ref a_p1_gate, .ref a_p1_across, .ref a_p1_wide, .ref a_p1_high, .ref a_p1_shape])), (a_p1_kind, .inl (cT 0, 12, .inl k_p1_kind)), (a_p1_place, .inl (cT 0, 12, .inl k_p1_place)), (a_p1_length, .inl (cT 0, 12, .inl k_p1_length)), (a_p1_gate, .inl (cT 0, 12, .inl k_p1_gate)), (a_p1_across, .inl (cT 2, 12, .inl k_p1_across)), (a_p1_shape, .inl (cT 1, 12, .inr (.inl k_p1_shape)))] sz) [(a_t, .inr (0, [.int k_width₉, .int k_height₉, .int k_barges, .long k_walls₉, .long k_taken₉, .ref a_kind, .ref a_place, .ref a_length, .ref a_gate, .ref a_across, .ref a_wide, .ref a_high, .ref a_shape])), (a_kind, .inl (cT 0, 12, .inl k_kind)), (a_place, .inl (cT 0, 12, .inl k_place₉)), (a_length, .inl (cT 0, 12, .inl k_length)), (a_gate, .inl (cT 0, 12, .inl k_gate₉)), (a_across, .inl (cT 2, 12, .inl k_across₉)), (a_wide, .inl (cT 0, 12, .inl k_wide₉)), (a_high, .inl (cT 0, 12, .inl k_high₉)), (a_shape, .inl (cT 1, 12, .inr (.inl k_shape₉))), (a_p1, .inr (0, [.int k_p1_width, .int k_p1_height, .int k_p1_barges, .long k_p1_walls, .long k_p1_taken, .ref a_p1_kind, .ref a_p1_place, .ref a_p1_length, .ref a_p1_gate, .ref a_p1_across, .ref a_p1_wide, .ref a_p1_high, .ref a_p1_shape])), (a_p1_kind, .inl (cT 0, 12, .inl k_p1_kind)), (a_p1_place, .inl (cT 0, 12, .inl k_p1_place)), (a_p1_length, .inl (cT 0, 12, .inl k_p1_length)), (a_p1_gate, .inl (cT 0, 12, .inl k_p1_gate)), (a_p1_across, .inl (cT 2, 12, .inl k_p1_across)), (a_p1_shape, .inl (cT 1, 12, .inr (.inl k_p1_shape)))]) (va_A [(a_t, .inr (0, [.int k_width, .int k_height, .int k_barges, .long k_walls, .long k_taken, .ref a_kind, .ref a_place, .ref a_length, .ref a_gate, .ref a_across, .ref a_wide, .ref a_high, .ref a_shape])), (a_kind, .inl (cT 0, 12, .inl k_kind)), (a_place, .inl (cT 0, 12, .inl k_place)), (a_length, .inl (cT 0, 12, .inl k_length)), (a_gate, .inl (cT 0, 12, .inl k_gate)), (a_across, .inl (cT 2, 12, .inl k_across)), (a_wide, .inl (cT 0, 12, .inl k_wide)), (a_high, .inl (cT 0, 12, .inl k_high)), (a_shape, .inl (cT 1, 12, .inr (.inl k_shape))), (a_p1, .inr (0, [.int k_p1_width, .int k_p1_height, .int k_p1_barges, .long k_p1_walls, .long k_p1_taken, .ref a_p1_kind, .ref a_p1_place, .ref a_p1_length, .ref a_p1_gate, .ref a_p1_across, .ref a_p1_wide, .ref a_p1_high, .ref a_p1_shape])), (a_p1_kind, .inl (cT 0, 12, .inl k_p1_kind)), (a_p1_place, .inl (cT 0, 12, .inl k_p1_place)), (a_p1_length, .inl (cT 0, 12, .inl k_p1_length)), (a_p1_gate, .inl (cT 0, 12, .inl k_p1_gate)), (a_p1_across, .inl (cT 2, 12, .inl k_p1_across)), (a_p1_shape, .inl (cT 1, 12, .inr (.inl k_p1_shape)))] sz)) 0 0 (va_A [(a_t, .inr (0, [.int k_width, .int k_height, .int k_barges, .long k_walls, .long k_taken, .ref a_kind, .ref a_place, .ref a_length, .ref a_gate, .ref a_across, .ref a_wide, .ref a_high, .ref a_shape])), (a_kind, .inl (cT 0, 12, .inl k_kind)), (a_place, .inl (cT 0, 12, .inl k_place)), (a_length, .inl (cT 0, 12, .inl k_length)), (a_gate, .inl (cT 0, 12, .inl k_gate)), (a_across, .inl (cT 2, 12, .inl k_across)), (a_wide, .inl (cT 0, 12, .inl k_wide)), (a_high, .inl (cT 0, 12, .inl k_high)), (a_shape, .inl (cT 1, 12, .inr (.inl k_shape))), (a_p1, .inr (0, [.int k_p1_width, .int k_p1_height, .int k_p1_barges, .long k_p1_walls, .long k_p1_taken, .ref a_p1_kind, .ref a_p1_place, .ref a_p1_length, .ref a_p1_gate, .ref a_p1_across, .ref a_p1_wide, .ref a_p1_high, .ref a_p1_shape])), (a_p1_kind, .inl (cT 0, 12, .inl k_p1_kind)), (a_p1_place, .inl (cT 0, 12, .inl k_p1_place)), (a_p1_length, .inl (cT 0, 12, .inl k_p1_length)), (a_p1_gate, .inl (cT 0, 12, .inl k_p1_gate)), (a_p1_across, .inl (cT 2, 12, .inl k_p1_across)), (a_p1_shape, .inl (cT 1, 12, .inr (.inl k_p1_shape)))] sz) := by
  refine Met.ofW (cc := cX0_isSameTurned) (maxL := 4) (ret := (some .boolean)) (by decide) rfl ?_
  intro p e s m args below meth c s₁ B hml hv
  obtain ⟨rfl, hsz, hP, hK, hN, hD0⟩ := hv
  have hx := B.exec
  have hb := B.bytes
  have hr := B.returns
  have hts := atoms_spec (ws := wsX0_isSameTurned) B.pre
  have hown : s.vm.findClass RX0 = some m.cls := findClass_of_methodNamed B.named
  have hlocks := B.notSynchronized
  subst hsz
  have hD := hD0.self (sz := s.heap.size)
  clear hD0
  generalize hAe : va_A [(a_t, .inr (0, [.int k_width, .int k_height, .int k_barges, .long k_walls, .long k_taken, .ref a_kind, .ref a_place, .ref a_length, .ref a_gate, .ref a_across, .ref a_wide, .ref a_high, .ref a_shape])), (a_kind, .inl (cT 0, 12, .inl k_kind)), (a_place, .inl (cT 0, 12, .inl k_place)), (a_length, .inl (cT 0, 12, .inl k_length)), (a_gate, .inl (cT 0, 12, .inl k_gate)), (a_across, .inl (cT 2, 12, .inl k_across)), (a_wide, .inl (cT 0, 12, .inl k_wide)), (a_high, .inl (cT 0, 12, .inl k_high)), (a_shape, .inl (cT 1, 12, .inr (.inl k_shape))), (a_p1, .inr (0, [.int k_p1_width, .int k_p1_height, .int k_p1_barges, .long k_p1_walls, .long k_p1_taken, .ref a_p1_kind, .ref a_p1_place, .ref a_p1_length, .ref a_p1_gate, .ref a_p1_across, .ref a_p1_wide, .ref a_p1_high, .ref a_p1_shape])), (a_p1_kind, .inl (cT 0, 12, .inl k_p1_kind)), (a_p1_place, .inl (cT 0, 12, .inl k_p1_place)), (a_p1_length, .inl (cT 0, 12, .inl k_p1_length)), (a_p1_gate, .inl (cT 0, 12, .inl k_p1_gate)), (a_p1_across, .inl (cT 2, 12, .inl k_p1_across)), (a_p1_shape, .inl (cT 1, 12, .inr (.inl k_p1_shape)))] s.heap.size = A at hD ⊢
  have hA : ∀ q : Nat, s.heap.size ≤ q → A q := fun q h => by rw [← hAe]; exact Or.inr h
  clear hAe
  have hl := lv_entry ([.ref a_t, .ref a_p1]) (n := 4) (Nat.le_of_ble_eq_true rfl)
  rw [lg_entry_eq]
  generalize (lg_sl ([.ref a_t, .ref a_p1]) ++ List.replicate (4 - (lg_sl ([.ref a_t, .ref a_p1])).length) Slot.unset).toArray = ls at hl ⊢
  have hl : lv_has ls 4 [(0, .ref a_t), (1, .ref a_p1)] := hl
  refine j_start (A := A) hP (fun H locs hP hS => ?_)
  unfold f_Chart_isSameTurned at hf
  refine lv_iconst (v := 0) hx hb dX0_isSameTurned_0 (by decide) ?_
  refine lv_istore_n (lv' := [(2, .int ((0 : Int32))), (0, .ref a_t), (1, .ref a_p1)]) hx hb dX0_isSameTurned_1 rfl hl (by decide) rfl (fun ls hl => ?_)
  replace hf := ob_b hf
  obtain ⟨ex_91, hq_92, hf⟩ := hf
  refine l_f_Chart_isSameTurned_L2 hx hb hml hown hts hK hN hA jN _ _ _ _ _ _ _ _ _ _ _ ex_91 hq_92 _ _ hP hD hS ls (lv_sub hl [1, 2, 0] rfl) (fun k_width_93 k_height_94 k_walls_95 k_taken_96 k_place_97 k_gate_98 k_across_99 k_wide_100 k_high_101 k_shape_102 ee_103 H locs hP hD hS ls hl => ?_) (fun k_width_104 k_height_105 k_walls_106 k_taken_107 k_place_108 k_gate_109 k_across_110 k_wide_111 k_high_112 k_shape_113 ee_114 H locs hP hD hS ls hl => ?_)
  · subst ee_103
    replace hf := ob_inl hf
    replace hf := ob_un10 hf
    refine lv_iconst (v := 1) hx hb dX0_isSameTurned_26 (by decide) ?_
    replace hf := ob_t11 hf
    obtain ⟨ee0, ee1, ee2, ee3, ee4, ee5, ee6, ee7, ee8, ee9, ee10⟩ := hf
    subst ee0
    subst ee1
    subst ee2
    subst ee3
    subst ee4
    subst ee5
    subst ee6
    subst ee7
    subst ee8
    subst ee9
    subst ee10
    exact W.zret hx hb hr (by decide +kernel) (fun t ht hW => ⟨⟨_, (), rfl, rfl, by rw [ht]; exact hP, va_K.moved hW.alike hK, hD⟩, hS.F ht⟩) hS.2.2 dX0_isSameTurned_27
  · subst ee_114
    replace hf := ob_inr hf
    replace hf := ob_un10 hf
    refine lv_iconst (v := 0) hx hb dX0_isSameTurned_44 (by decide) ?_
    replace hf := ob_t11 hf
    obtain ⟨ee0, ee1, ee2, ee3, ee4, ee5, ee6, ee7, ee8, ee9, ee10⟩ := hf
    subst ee0
    subst ee1
    subst ee2
    subst ee3
    subst ee4
    subst ee5
    subst ee6
    subst ee7
    subst ee8
    subst ee9
    subst ee10
    exact W.zret hx hb hr (by decide +kernel) (fun t ht hW => ⟨⟨_, (), rfl, rfl, by rw [ht]; exact hP, va_K.moved hW.alike hK, hD⟩, hS.F ht⟩) hS.2.2 dX0_isSameTurned_45
theorem iw_wsX1_init_X1 : ∀ w ∈ wsX10, w ∈ wsX1_init := fun _ h => List.mem_cons_of_mem _ (List.mem_append_right _ h)
abbrev rm_Draw_init : Room := { frames := 1, cells := 0, slots := 0, locals := 12 }
set_option maxHeartbeats 4000000 in
set_option maxRecDepth 100000 in
theorem c_f_Draw_init (l : Launch) (D : va_G) (cT : Nat → ClassId) (sz : Nat) (a_t : Nat) (k_seed : Int32) (v1 : Int32) (k_seed₉ : Int32) (hf : f_Draw_init v1 k_seed = some k_seed₉) : Met l yX1_init wsX1_init rm_Draw_init (va_Pc [.ref a_t, .int v1] (fun U => U.heap.size = sz ∧ va_P D vwCl [(a_t, .inr (1, [.int k_seed]))] U.heap ∧ va_K D vwCl (jT cT) U ∧ jNw U ∧ va_D (fun _ => True) [(a_t, .inr (1, [.int k_seed]))])) (va_Qv (fun _ : Unit => True) (fun (_ : Unit) t => va_P D vwCl [(a_t, .inr (1, [.int k_seed₉]))] t.heap ∧ va_K D vwCl (jT cT) t ∧ va_D (va_A [(a_t, .inr (1, [.int k_seed]))] sz) [(a_t, .inr (1, [.int k_seed₉]))]) (va_A [(a_t, .inr (1, [.int k_seed]))] sz)) 0 0 (va_A [(a_t, .inr (1, [.int k_seed]))] sz) := by
  refine Met.ofW (cc := cX1_init) (maxL := 2) (ret := none) (by decide) rfl ?_
  intro p e s m args below meth c s₁ B hml hv
  obtain ⟨rfl, hsz, hP, hK, hN, hD0⟩ := hv
  have hx := B.exec
  have hb := B.bytes
  have hr := B.returns
  have hts := atoms_spec (ws := wsX1_init) B.pre
  have hown : s.vm.findClass RX1 = some m.cls := findClass_of_methodNamed B.named
  have hlocks := B.notSynchronized
  have hin : meth.name = "<init>" := (name_of_methodNamed B.named B.method).1
  subst hsz
  have hD := hD0.self (sz := s.heap.size)
  clear hD0
  generalize hAe : va_A [(a_t, .inr (1, [.int k_seed]))] s.heap.size = A at hD ⊢
  have hA : ∀ q : Nat, s.heap.size ≤ q → A q := fun q h => by rw [← hAe]; exact Or.inr h
  clear hAe
  have hl := lv_entry ([.ref a_t, .int v1]) (n := 2) (Nat.le_of_ble_eq_true rfl)
  rw [lg_entry_eq]
  generalize (lg_sl ([.ref a_t, .int v1]) ++ List.replicate (2 - (lg_sl ([.ref a_t, .int v1])).length) Slot.unset).toArray = ls at hl ⊢
  have hl : lv_has ls 2 [(0, .ref a_t), (1, .int v1)] := hl
  refine j_start (A := A) hP (fun H locs hP hS => ?_)
  unfold f_Draw_init at hf
  refine lv_aload_n hx hb dX1_init_0 rfl (lv_at hl 0 rfl) ?_
  refine W.objInit hx hb hown (hts (.methodLink RX1 3 objectInit) (List.mem_of_getElem? (i := 1) (by decide +kernel))) (hts (.instanceMethod objectInit) (List.mem_of_getElem? (i := 2) (by decide +kernel))) (hts _ (by decide +kernel)) rfl (by rw [hml]; exact hl.1) rfl dX1_init_1 (Nat.le_of_ble_eq_true rfl) (Nat.le_of_ble_eq_true rfl) ?_
  refine W.eq (g2 := F0 m 4 ls []) rfl ?_
  refine lv_aload_n hx hb dX1_init_4 rfl (lv_at hl 0 rfl) ?_
  refine lv_iload_n hx hb dX1_init_5 rfl (lv_at hl 1 rfl) ?_
  refine va_put (D := D) (ci := 1) (v := .int v1) (ty := .int) (C := RX1) (T := TX1) (N := 1) hx hb hts iw_wsX1_init_X1 tyX1 tyX1_ok nmX1 hown hK hP hD hS 0 rfl rfl 0 (by decide) (hts (.fieldLink RX1 9 "BargeBasin$Draw" "seed" "I") (List.mem_of_getElem? (i := 4) (by decide +kernel))) (fun _ h9 => h9) rfl (by decide +kernel) rfl rfl (Nat.le_of_ble_eq_true rfl) dX1_init_6 (fun H locs hP hD hS => ?_)
  replace hP : va_P D vwCl [(a_t, .inr (1, [.int v1]))] H := hP
  replace hD : va_D A [(a_t, .inr (1, [.int v1]))] := hD
  cases hf
  exact W.vret hx hb hr (fun t ht hW => ⟨⟨(), rfl, trivial, by rw [ht]; exact hP, va_K.moved hW.alike hK, hD⟩, hS.F ht⟩) hS.2.2 dX1_init_9
theorem iw_wsX1_below_X1 : ∀ w ∈ wsX10, w ∈ wsX1_below := fun _ h => List.mem_cons_of_mem _ (List.mem_append_right _ h)
abbrev rm_Draw_below : Room := { frames := 0, cells := 0, slots := 0, locals := 0 }
set_option maxHeartbeats 4000000 in
set_option maxRecDepth 100000 in
theorem c_f_Draw_below (l : Launch) (D : va_G) (cT : Nat → ClassId) (sz : Nat) (a_t : Nat) (k_seed : Int32) (v1 : Int32) (r0 : Int32) (k_seed₉ : Int32) (hf : f_Draw_below v1 k_seed = some (r0, k_seed₉)) : Met l yX1_below wsX1_below rm_Draw_below (va_Pc [.ref a_t, .int v1] (fun U => U.heap.size = sz ∧ va_P D vwCl [(a_t, .inr (1, [.int k_seed]))] U.heap ∧ va_K D vwCl (jT cT) U ∧ jNw U ∧ va_D (fun _ => True) [(a_t, .inr (1, [.int k_seed]))])) (va_Qi (fun r (_ : Unit) => r = r0) (fun (_ : Unit) t => va_P D vwCl [(a_t, .inr (1, [.int k_seed₉]))] t.heap ∧ va_K D vwCl (jT cT) t ∧ va_D (va_A [(a_t, .inr (1, [.int k_seed]))] sz) [(a_t, .inr (1, [.int k_seed₉]))]) (va_A [(a_t, .inr (1, [.int k_seed]))] sz)) 0 0 (va_A [(a_t, .inr (1, [.int k_seed]))] sz) := by
  refine Met.ofW (cc := cX1_below) (maxL := 2) (ret := (some .int)) (by decide) rfl ?_
  intro p e s m args below meth c s₁ B hml hv
  obtain ⟨rfl, hsz, hP, hK, hN, hD0⟩ := hv
  have hx := B.exec
  have hb := B.bytes
  have hr := B.returns
  have hts := atoms_spec (ws := wsX1_below) B.pre
  have hown : s.vm.findClass RX1 = some m.cls := findClass_of_methodNamed B.named
  have hlocks := B.notSynchronized
  subst hsz
  have hD := hD0.self (sz := s.heap.size)
  clear hD0
  generalize hAe : va_A [(a_t, .inr (1, [.int k_seed]))] s.heap.size = A at hD ⊢
  have hA : ∀ q : Nat, s.heap.size ≤ q → A q := fun q h => by rw [← hAe]; exact Or.inr h
  clear hAe
  have hl := lv_entry ([.ref a_t, .int v1]) (n := 2) (Nat.le_of_ble_eq_true rfl)
  rw [lg_entry_eq]
  generalize (lg_sl ([.ref a_t, .int v1]) ++ List.replicate (2 - (lg_sl ([.ref a_t, .int v1])).length) Slot.unset).toArray = ls at hl ⊢
  have hl : lv_has ls 2 [(0, .ref a_t), (1, .int v1)] := hl
  refine j_start (A := A) hP (fun H locs hP hS => ?_)
  unfold f_Draw_below at hf
  refine lv_aload_n hx hb dX1_below_0 rfl (lv_at hl 0 rfl) ?_
  refine lv_ldc hx hb hown (hts (.constant RX1 15 (1103515245)) (List.mem_of_getElem? (i := 1) (by decide +kernel))) dX1_below_1 ?_
  refine lv_aload_n hx hb dX1_below_3 rfl (lv_at hl 0 rfl) ?_
  refine va_get (D := D) (ci := 1) (v := .int k_seed) (C := RX1) (T := TX1) (N := 1) hx hb hts iw_wsX1_below_X1 hown hK hP 0 rfl rfl 0 (by decide) (hts (.fieldLink RX1 9 "BargeBasin$Draw" "seed" "I") (List.mem_of_getElem? (i := 2) (by decide +kernel))) (fun _ h9 => h9) rfl dX1_below_4 ?_
  refine lv_imul hx hb dX1_below_7 ?_
  refine lv_sipush (v := 12345) hx hb dX1_below_8 (by decide) ?_
  refine lv_iadd hx hb dX1_below_11 ?_
  refine lv_ldc hx hb hown (hts (.constant RX1 16 (2147483647)) (List.mem_of_getElem? (i := 3) (by decide +kernel))) dX1_below_12 ?_
  refine lv_iand hx hb dX1_below_14 ?_
  refine lv_topi (fun w_1 ew_1 => ?_)
  replace hf := ob_nm ew_1 hf
  refine va_put (D := D) (ci := 1) (v := .int w_1) (ty := .int) (C := RX1) (T := TX1) (N := 1) hx hb hts iw_wsX1_below_X1 tyX1 tyX1_ok nmX1 hown hK hP hD hS 0 rfl rfl 0 (by decide) (hts (.fieldLink RX1 9 "BargeBasin$Draw" "seed" "I") (List.mem_of_getElem? (i := 2) (by decide +kernel))) (fun _ h9 => h9) rfl (by decide +kernel) rfl rfl (Nat.le_of_ble_eq_true rfl) dX1_below_15 (fun H locs hP hD hS => ?_)
  replace hP : va_P D vwCl [(a_t, .inr (1, [.int w_1]))] H := hP
  replace hD : va_D A [(a_t, .inr (1, [.int w_1]))] := hD
  refine lv_iload_n hx hb dX1_below_18 rfl (lv_at hl 1 rfl) ?_
  refine lv_iconst (v := 1) hx hb dX1_below_19 (by decide) ?_
  refine lv_icmp_ge (tgt := 27) hx hb dX1_below_20 (by decide) (fun c_2 => ?_) (fun c_2 => ?_)
  · replace hf := ob_pos c_2 hf
    refine lv_aload_n hx hb dX1_below_27 rfl (lv_at hl 0 rfl) ?_
    refine va_get (D := D) (ci := 1) (v := .int w_1) (C := RX1) (T := TX1) (N := 1) hx hb hts iw_wsX1_below_X1 hown hK hP 0 rfl rfl 0 (by decide) (hts (.fieldLink RX1 9 "BargeBasin$Draw" "seed" "I") (List.mem_of_getElem? (i := 2) (by decide +kernel))) (fun _ h9 => h9) rfl dX1_below_28 ?_
    refine lv_bipush (v := 16) hx hb dX1_below_31 (by decide) ?_
    refine lv_ishr hx hb dX1_below_33 ?_
    refine lv_iload_n hx hb dX1_below_34 rfl (lv_at hl 1 rfl) ?_
    replace hf := ob_div hf
    obtain ⟨hd_3, hf⟩ := hf
    refine lv_irem hx hb dX1_below_35 hd_3 ?_
    replace hf := ob_t2 hf
    obtain ⟨ee0, ee1⟩ := hf
    subst ee0
    subst ee1
    exact W.iret hx hb hr (fun t ht hW => ⟨⟨_, (), rfl, rfl, by rw [ht]; exact hP, va_K.moved hW.alike hK, hD⟩, hS.F ht⟩) hS.2.2 dX1_below_36
  · replace hf := ob_neg c_2 hf
    refine lv_iconst (v := 0) hx hb dX1_below_23 (by decide) ?_
    refine lv_goto (tgt := 36) hx hb dX1_below_24 (by decide) ?_
    replace hf := ob_t2 hf
    obtain ⟨ee0, ee1⟩ := hf
    subst ee0
    subst ee1
    exact W.iret hx hb hr (fun t ht hW => ⟨⟨_, (), rfl, rfl, by rw [ht]; exact hP, va_K.moved hW.alike hK, hD⟩, hS.F ht⟩) hS.2.2 dX1_below_36
theorem iw_wsX1_addsTo_X0 : ∀ w ∈ wsX00, w ∈ wsX1_addsTo := fun _ h => List.mem_cons_of_mem _ (List.mem_append_left _ (List.mem_append_right _ h))
theorem iw_wsX1_addsTo_X1 : ∀ w ∈ wsX10, w ∈ wsX1_addsTo := fun _ h => List.mem_cons_of_mem _ (List.mem_append_right _ h)
abbrev rm_Draw_addsTo : Room := { frames := 3, cells := 0, slots := 0, locals := 71 }
set_option maxHeartbeats 4000000 in
set_option maxRecDepth 100000 in
theorem c_f_Draw_addsTo (l : Launch) (D : va_G) (cT : Nat → ClassId) (sz : Nat) (a_t a_p1 a_p1_kind a_p1_place a_p1_length a_p1_gate a_p1_across a_p1_wide a_p1_high a_p1_shape : Nat) (k_seed : Int32) (k_p1_width : Int32) (k_p1_height : Int32) (k_p1_barges : Int32) (k_p1_walls : Int64) (k_p1_taken : Int64) (k_p1_kind : Nat → Int32) (k_p1_place : Nat → Int32) (k_p1_length : Nat → Int32) (k_p1_gate : Nat → Int32) (k_p1_across : Nat → Int32) (k_p1_wide : Nat → Int32) (k_p1_high : Nat → Int32) (k_p1_shape : Nat → Int64) (r0 : Int32) (k_seed₉ : Int32) (k_p1_barges₉ : Int32) (k_p1_taken₉ : Int64) (k_p1_kind₉ : Nat → Int32) (k_p1_place₉ : Nat → Int32) (k_p1_length₉ : Nat → Int32) (k_p1_gate₉ : Nat → Int32) (k_p1_across₉ : Nat → Int32) (k_p1_wide₉ : Nat → Int32) (k_p1_high₉ : Nat → Int32) (k_p1_shape₉ : Nat → Int64) (hf : f_Draw_addsTo k_seed k_p1_width k_p1_height k_p1_barges k_p1_walls k_p1_taken k_p1_kind k_p1_place k_p1_length k_p1_gate k_p1_across k_p1_wide k_p1_high k_p1_shape = some (r0, k_seed₉, k_p1_barges₉, k_p1_taken₉, k_p1_kind₉, k_p1_place₉, k_p1_length₉, k_p1_gate₉, k_p1_across₉, k_p1_wide₉, k_p1_high₉, k_p1_shape₉)) : Met l yX1_addsTo wsX1_addsTo rm_Draw_addsTo (va_Pc [.ref a_t, .ref a_p1] (fun U => U.heap.size = sz ∧ va_P D vwCl [(a_t, .inr (1, [.int k_seed])), (a_p1, .inr (0, [.int k_p1_width, .int k_p1_height, .int k_p1_barges, .long k_p1_walls, .long k_p1_taken, .ref a_p1_kind, .ref a_p1_place, .ref a_p1_length, .ref a_p1_gate, .ref a_p1_across, .ref a_p1_wide, .ref a_p1_high, .ref a_p1_shape])), (a_p1_kind, .inl (cT 0, 12, .inl k_p1_kind)), (a_p1_place, .inl (cT 0, 12, .inl k_p1_place)), (a_p1_length, .inl (cT 0, 12, .inl k_p1_length)), (a_p1_gate, .inl (cT 0, 12, .inl k_p1_gate)), (a_p1_across, .inl (cT 2, 12, .inl k_p1_across)), (a_p1_wide, .inl (cT 0, 12, .inl k_p1_wide)), (a_p1_high, .inl (cT 0, 12, .inl k_p1_high)), (a_p1_shape, .inl (cT 1, 12, .inr (.inl k_p1_shape)))] U.heap ∧ va_K D vwCl (jT cT) U ∧ jNw U ∧ va_D (fun _ => True) [(a_t, .inr (1, [.int k_seed])), (a_p1, .inr (0, [.int k_p1_width, .int k_p1_height, .int k_p1_barges, .long k_p1_walls, .long k_p1_taken, .ref a_p1_kind, .ref a_p1_place, .ref a_p1_length, .ref a_p1_gate, .ref a_p1_across, .ref a_p1_wide, .ref a_p1_high, .ref a_p1_shape])), (a_p1_kind, .inl (cT 0, 12, .inl k_p1_kind)), (a_p1_place, .inl (cT 0, 12, .inl k_p1_place)), (a_p1_length, .inl (cT 0, 12, .inl k_p1_length)), (a_p1_gate, .inl (cT 0, 12, .inl k_p1_gate)), (a_p1_across, .inl (cT 2, 12, .inl k_p1_across)), (a_p1_wide, .inl (cT 0, 12, .inl k_p1_wide)), (a_p1_high, .inl (cT 0, 12, .inl k_p1_high)), (a_p1_shape, .inl (cT 1, 12, .inr (.inl k_p1_shape)))])) (va_Qi (fun r (_ : Unit) => r = r0) (fun (_ : Unit) t => va_P D vwCl [(a_t, .inr (1, [.int k_seed₉])), (a_p1, .inr (0, [.int k_p1_width, .int k_p1_height, .int k_p1_barges₉, .long k_p1_walls, .long k_p1_taken₉, .ref a_p1_kind, .ref a_p1_place, .ref a_p1_length, .ref a_p1_gate, .ref a_p1_across, .ref a_p1_wide, .ref a_p1_high, .ref a_p1_shape])), (a_p1_kind, .inl (cT 0, 12, .inl k_p1_kind₉)), (a_p1_place, .inl (cT 0, 12, .inl k_p1_place₉)), (a_p1_length, .inl (cT 0, 12, .inl k_p1_length₉)), (a_p1_gate, .inl (cT 0, 12, .inl k_p1_gate₉)), (a_p1_across, .inl (cT 2, 12, .inl k_p1_across₉)), (a_p1_wide, .inl (cT 0, 12, .inl k_p1_wide₉)), (a_p1_high, .inl (cT 0, 12, .inl k_p1_high₉)), (a_p1_shape, .inl (cT 1, 12, .inr (.inl k_p1_shape₉)))] t.heap ∧ va_K D vwCl (jT cT) t ∧ va_D (va_A [(a_t, .inr (1, [.int k_seed])), (a_p1, .inr (0, [.int k_p1_width, .int k_p1_height, .int k_p1_barges, .long k_p1_walls, .long k_p1_taken, .ref a_p1_kind, .ref a_p1_place, .ref a_p1_length, .ref a_p1_gate, .ref a_p1_across, .ref a_p1_wide, .ref a_p1_high, .ref a_p1_shape])), (a_p1_kind, .inl (cT 0, 12, .inl k_p1_kind)), (a_p1_place, .inl (cT 0, 12, .inl k_p1_place)), (a_p1_length, .inl (cT 0, 12, .inl k_p1_length)), (a_p1_gate, .inl (cT 0, 12, .inl k_p1_gate)), (a_p1_across, .inl (cT 2, 12, .inl k_p1_across)), (a_p1_wide, .inl (cT 0, 12, .inl k_p1_wide)), (a_p1_high, .inl (cT 0, 12, .inl k_p1_high)), (a_p1_shape, .inl (cT 1, 12, .inr (.inl k_p1_shape)))] sz) [(a_t, .inr (1, [.int k_seed₉])), (a_p1, .inr (0, [.int k_p1_width, .int k_p1_height, .int k_p1_barges₉, .long k_p1_walls, .long k_p1_taken₉, .ref a_p1_kind, .ref a_p1_place, .ref a_p1_length, .ref a_p1_gate, .ref a_p1_across, .ref a_p1_wide, .ref a_p1_high, .ref a_p1_shape])), (a_p1_kind, .inl (cT 0, 12, .inl k_p1_kind₉)), (a_p1_place, .inl (cT 0, 12, .inl k_p1_place₉)), (a_p1_length, .inl (cT 0, 12, .inl k_p1_length₉)), (a_p1_gate, .inl (cT 0, 12, .inl k_p1_gate₉)), (a_p1_across, .inl (cT 2, 12, .inl k_p1_across₉)), (a_p1_wide, .inl (cT 0, 12, .inl k_p1_wide₉)), (a_p1_high, .inl (cT 0, 12, .inl k_p1_high₉)), (a_p1_shape, .inl (cT 1, 12, .inr (.inl k_p1_shape₉)))]) (va_A [(a_t, .inr (1, [.int k_seed])), (a_p1, .inr (0, [.int k_p1_width, .int k_p1_height, .int k_p1_barges, .long k_p1_walls, .long k_p1_taken, .ref a_p1_kind, .ref a_p1_place, .ref a_p1_length, .ref a_p1_gate, .ref a_p1_across, .ref a_p1_wide, .ref a_p1_high, .ref a_p1_shape])), (a_p1_kind, .inl (cT 0, 12, .inl k_p1_kind)), (a_p1_place, .inl (cT 0, 12, .inl k_p1_place)), (a_p1_length, .inl (cT 0, 12, .inl k_p1_length)), (a_p1_gate, .inl (cT 0, 12, .inl k_p1_gate)), (a_p1_across, .inl (cT 2, 12, .inl k_p1_across)), (a_p1_wide, .inl (cT 0, 12, .inl k_p1_wide)), (a_p1_high, .inl (cT 0, 12, .inl k_p1_high)), (a_p1_shape, .inl (cT 1, 12, .inr (.inl k_p1_shape)))] sz)) 0 0 (va_A [(a_t, .inr (1, [.int k_seed])), (a_p1, .inr (0, [.int k_p1_width, .int k_p1_height, .int k_p1_barges, .long k_p1_walls, .long k_p1_taken, .ref a_p1_kind, .ref a_p1_place, .ref a_p1_length, .ref a_p1_gate, .ref a_p1_across, .ref a_p1_wide, .ref a_p1_high, .ref a_p1_shape])), (a_p1_kind, .inl (cT 0, 12, .inl k_p1_kind)), (a_p1_place, .inl (cT 0, 12, .inl k_p1_place)), (a_p1_length, .inl (cT 0, 12, .inl k_p1_length)), (a_p1_gate, .inl (cT 0, 12, .inl k_p1_gate)), (a_p1_across, .inl (cT 2, 12, .inl k_p1_across)), (a_p1_wide, .inl (cT 0, 12, .inl k_p1_wide)), (a_p1_high, .inl (cT 0, 12, .inl k_p1_high)), (a_p1_shape, .inl (cT 1, 12, .inr (.inl k_p1_shape)))] sz) := by
  refine Met.ofW (cc := cX1_addsTo) (maxL := 8) (ret := (some .boolean)) (by decide) rfl ?_
  intro p e s m args below meth c s₁ B hml hv
  obtain ⟨rfl, hsz, hP, hK, hN, hD0⟩ := hv
  have hx := B.exec
  have hb := B.bytes
  have hr := B.returns
  have hts := atoms_spec (ws := wsX1_addsTo) B.pre
  have hown : s.vm.findClass RX1 = some m.cls := findClass_of_methodNamed B.named
  have hlocks := B.notSynchronized
  subst hsz
  have hD := hD0.self (sz := s.heap.size)
  clear hD0
  generalize hAe : va_A [(a_t, .inr (1, [.int k_seed])), (a_p1, .inr (0, [.int k_p1_width, .int k_p1_height, .int k_p1_barges, .long k_p1_walls, .long k_p1_taken, .ref a_p1_kind, .ref a_p1_place, .ref a_p1_length, .ref a_p1_gate, .ref a_p1_across, .ref a_p1_wide, .ref a_p1_high, .ref a_p1_shape])), (a_p1_kind, .inl (cT 0, 12, .inl k_p1_kind)), (a_p1_place, .inl (cT 0, 12, .inl k_p1_place)), (a_p1_length, .inl (cT 0, 12, .inl k_p1_length)), (a_p1_gate, .inl (cT 0, 12, .inl k_p1_gate)), (a_p1_across, .inl (cT 2, 12, .inl k_p1_across)), (a_p1_wide, .inl (cT 0, 12, .inl k_p1_wide)), (a_p1_high, .inl (cT 0, 12, .inl k_p1_high)), (a_p1_shape, .inl (cT 1, 12, .inr (.inl k_p1_shape)))] s.heap.size = A at hD ⊢
  have hA : ∀ q : Nat, s.heap.size ≤ q → A q := fun q h => by rw [← hAe]; exact Or.inr h
  clear hAe
  have hl := lv_entry ([.ref a_t, .ref a_p1]) (n := 8) (Nat.le_of_ble_eq_true rfl)
  rw [lg_entry_eq]
  generalize (lg_sl ([.ref a_t, .ref a_p1]) ++ List.replicate (8 - (lg_sl ([.ref a_t, .ref a_p1])).length) Slot.unset).toArray = ls at hl ⊢
  have hl : lv_has ls 8 [(0, .ref a_t), (1, .ref a_p1)] := hl
  refine j_nameQ (fun Q hQ => ?_)
  have J69 : ∀ (v3 : Int32) (v4 : Int32) (s0 : Int32) (k_seed : Int32) (k_p1_barges : Int32) (k_p1_taken : Int64) (k_p1_kind : Nat → Int32) (k_p1_place : Nat → Int32) (k_p1_length : Nat → Int32) (k_p1_gate : Nat → Int32) (k_p1_across : Nat → Int32) (k_p1_wide : Nat → Int32) (k_p1_high : Nat → Int32) (k_p1_shape : Nat → Int64), f_Draw_addsTo_J69 v3 v4 s0 k_seed k_p1_width k_p1_height k_p1_barges k_p1_walls k_p1_taken k_p1_kind k_p1_place k_p1_length k_p1_gate k_p1_across k_p1_wide k_p1_high k_p1_shape = some (r0, k_seed₉, k_p1_barges₉, k_p1_taken₉, k_p1_kind₉, k_p1_place₉, k_p1_length₉, k_p1_gate₉, k_p1_across₉, k_p1_wide₉, k_p1_high₉, k_p1_shape₉) → ∀ (H : Heap) (locs : List Loc), va_P D vwCl [(a_t, .inr (1, [.int k_seed])), (a_p1, .inr (0, [.int k_p1_width, .int k_p1_height, .int k_p1_barges, .long k_p1_walls, .long k_p1_taken, .ref a_p1_kind, .ref a_p1_place, .ref a_p1_length, .ref a_p1_gate, .ref a_p1_across, .ref a_p1_wide, .ref a_p1_high, .ref a_p1_shape])), (a_p1_kind, .inl (cT 0, 12, .inl k_p1_kind)), (a_p1_place, .inl (cT 0, 12, .inl k_p1_place)), (a_p1_length, .inl (cT 0, 12, .inl k_p1_length)), (a_p1_gate, .inl (cT 0, 12, .inl k_p1_gate)), (a_p1_across, .inl (cT 2, 12, .inl k_p1_across)), (a_p1_wide, .inl (cT 0, 12, .inl k_p1_wide)), (a_p1_high, .inl (cT 0, 12, .inl k_p1_high)), (a_p1_shape, .inl (cT 1, 12, .inr (.inl k_p1_shape)))] H → va_D A [(a_t, .inr (1, [.int k_seed])), (a_p1, .inr (0, [.int k_p1_width, .int k_p1_height, .int k_p1_barges, .long k_p1_walls, .long k_p1_taken, .ref a_p1_kind, .ref a_p1_place, .ref a_p1_length, .ref a_p1_gate, .ref a_p1_across, .ref a_p1_wide, .ref a_p1_high, .ref a_p1_shape])), (a_p1_kind, .inl (cT 0, 12, .inl k_p1_kind)), (a_p1_place, .inl (cT 0, 12, .inl k_p1_place)), (a_p1_length, .inl (cT 0, 12, .inl k_p1_length)), (a_p1_gate, .inl (cT 0, 12, .inl k_p1_gate)), (a_p1_across, .inl (cT 2, 12, .inl k_p1_across)), (a_p1_wide, .inl (cT 0, 12, .inl k_p1_wide)), (a_p1_high, .inl (cT 0, 12, .inl k_p1_high)), (a_p1_shape, .inl (cT 1, 12, .inr (.inl k_p1_shape)))] → va_S A s.heap H locs → ∀ (ls : Array Slot), lv_has ls 8 [(0, .ref a_t), (1, .ref a_p1), (3, .int v3), (4, .int v4)] → W p l e (headSpec wsX1_addsTo rm_Draw_addsTo).room s m ([.ref a_t, .ref a_p1] : List Value).toArray below meth c H locs 0 0 Q (F0 m 69 ls [.int s0]) := by
    intro v3 v4 s0 k_seed k_p1_barges k_p1_taken k_p1_kind k_p1_place k_p1_length k_p1_gate k_p1_across k_p1_wide k_p1_high k_p1_shape hf H locs hP hD hS ls hl
    unfold f_Draw_addsTo_J69 at hf
    refine lv_istore (lv' := [(5, .int s0), (0, .ref a_t), (1, .ref a_p1), (3, .int v3), (4, .int v4)]) hx hb dX1_addsTo_69 hl (by decide) rfl (fun ls hl => ?_)
    refine lv_aload_n hx hb dX1_addsTo_71 rfl (lv_at hl 1 rfl) ?_
    refine lv_aload_n hx hb dX1_addsTo_72 rfl (lv_at hl 2 rfl) ?_
    refine va_get (D := D) (ci := 0) (v := .int k_p1_width) (C := RX0) (T := TX0) (N := 13) hx hb hts iw_wsX1_addsTo_X0 hown hK hP 1 rfl rfl 0 (by decide) (hts (.fieldLink RX1 21 "BargeBasin$Chart" "width" "I") (List.mem_of_getElem? (i := 1) (by decide +kernel))) (fun _ h9 => h9) rfl dX1_addsTo_73 ?_
    replace hf := ob_b hf
    obtain ⟨⟨zr_10, k_seed_11⟩, hc_12, hf⟩ := hf
    replace hf := ob_un2 hf
    have hPc := hP.sub (ws' := [(a_t, .inr (1, [.int k_seed]))]) [0] rfl
    have hDc := hD.sub (ws' := [(a_t, .inr (1, [.int k_seed]))]) [0] (by decide) rfl
    have hFc := va_free (wc := [(a_t, .inr (1, [.int k_seed]))]) hD hS hA [0] rfl
    refine va_calli (va_runV (As := [.int k_p1_width]) (rest := []) ⟨hx, hb, hml, hown, hts⟩ (c_f_Draw_below l D cT H.size a_t k_seed k_p1_width _ _ hc_12) (cwV 1 hts gX1_addsTo_X1_below rfl rfl rfl (by decide +kernel) ⟨Nat.le_of_ble_eq_true rfl, Nat.le_of_ble_eq_true rfl⟩) ⟨fun a U g mk q => by obtain ⟨q0, q1, qP, qK, qN, qD⟩ := q; exact ⟨q0, q1, qP, va_K.moved (u := U) (U := U.calling g mk a) (Vm.Alike.refl U.vm) qK, jNw_same (u := U) (U := U.calling g mk a) rfl qN, qD⟩, va_recv hK hP (ci := 1) (q0 := 0) rfl rfl, fun U hU hW => ⟨rfl, by rw [hU], by rw [hU]; exact hPc, va_K.moved hW.alike hK, jNw_warm hW hN, hDc.weaken (fun _ _ _ _ => trivial)⟩⟩ rfl rfl hl.1 rfl (lv_room (Nat.le_of_ble_eq_true rfl)) dX1_addsTo_76 ⟨Nat.le_of_ble_eq_true rfl, Nat.le_of_ble_eq_true rfl⟩) hS (fun q _ h => hFc q h) hFc (fun r_10 u t H1 locs ht hvm er_13 hB hz1 hk1 hS => ?_)
    subst er_13
    obtain ⟨hP1, hK1, hD1⟩ := hB
    rw [ht] at hP1
    have hPD := va_join (wr := [(a_p1, .inr (0, [.int k_p1_width, .int k_p1_height, .int k_p1_barges, .long k_p1_walls, .long k_p1_taken, .ref a_p1_kind, .ref a_p1_place, .ref a_p1_length, .ref a_p1_gate, .ref a_p1_across, .ref a_p1_wide, .ref a_p1_high, .ref a_p1_shape])), (a_p1_kind, .inl (cT 0, 12, .inl k_p1_kind)), (a_p1_place, .inl (cT 0, 12, .inl k_p1_place)), (a_p1_length, .inl (cT 0, 12, .inl k_p1_length)), (a_p1_gate, .inl (cT 0, 12, .inl k_p1_gate)), (a_p1_across, .inl (cT 2, 12, .inl k_p1_across)), (a_p1_wide, .inl (cT 0, 12, .inl k_p1_wide)), (a_p1_high, .inl (cT 0, 12, .inl k_p1_high)), (a_p1_shape, .inl (cT 1, 12, .inr (.inl k_p1_shape)))]) (w1 := [(a_t, .inr (1, [.int k_seed_11]))]) hP hD [0] [1, 2, 3, 4, 5, 6, 7, 8, 9] rfl rfl (by decide) (by decide) hk1 hFc hP1 hD1
    clear hP hD
    obtain ⟨hP, hD⟩ := hPD
    replace hP := hP.sub (ws' := [(a_t, .inr (1, [.int k_seed_11])), (a_p1, .inr (0, [.int k_p1_width, .int k_p1_height, .int k_p1_barges, .long k_p1_walls, .long k_p1_taken, .ref a_p1_kind, .ref a_p1_place, .ref a_p1_length, .ref a_p1_gate, .ref a_p1_across, .ref a_p1_wide, .ref a_p1_high, .ref a_p1_shape])), (a_p1_kind, .inl (cT 0, 12, .inl k_p1_kind)), (a_p1_place, .inl (cT 0, 12, .inl k_p1_place)), (a_p1_length, .inl (cT 0, 12, .inl k_p1_length)), (a_p1_gate, .inl (cT 0, 12, .inl k_p1_gate)), (a_p1_across, .inl (cT 2, 12, .inl k_p1_across)), (a_p1_wide, .inl (cT 0, 12, .inl k_p1_wide)), (a_p1_high, .inl (cT 0, 12, .inl k_p1_high)), (a_p1_shape, .inl (cT 1, 12, .inr (.inl k_p1_shape)))]) [9, 0, 1, 2, 3, 4, 5, 6, 7, 8] rfl
    replace hD := hD.sub (ws' := [(a_t, .inr (1, [.int k_seed_11])), (a_p1, .inr (0, [.int k_p1_width, .int k_p1_height, .int k_p1_barges, .long k_p1_walls, .long k_p1_taken, .ref a_p1_kind, .ref a_p1_place, .ref a_p1_length, .ref a_p1_gate, .ref a_p1_across, .ref a_p1_wide, .ref a_p1_high, .ref a_p1_shape])), (a_p1_kind, .inl (cT 0, 12, .inl k_p1_kind)), (a_p1_place, .inl (cT 0, 12, .inl k_p1_place)), (a_p1_length, .inl (cT 0, 12, .inl k_p1_length)), (a_p1_gate, .inl (cT 0, 12, .inl k_p1_gate)), (a_p1_across, .inl (cT 2, 12, .inl k_p1_across)), (a_p1_wide, .inl (cT 0, 12, .inl k_p1_wide)), (a_p1_high, .inl (cT 0, 12, .inl k_p1_high)), (a_p1_shape, .inl (cT 1, 12, .inr (.inl k_p1_shape)))]) [9, 0, 1, 2, 3, 4, 5, 6, 7, 8] (by decide) rfl
    clear hPc hDc hFc hP1 hK1 hD1 hk1 hz1
    generalize H1 = H at hP hS ⊢
    refine lv_istore (lv' := [(6, .int r_10), (5, .int s0), (0, .ref a_t), (1, .ref a_p1), (3, .int v3), (4, .int v4)]) hx hb dX1_addsTo_79 hl (by decide) rfl (fun ls hl => ?_)
    refine lv_aload_n hx hb dX1_addsTo_81 rfl (lv_at hl 2 rfl) ?_
    refine lv_aload_n hx hb dX1_addsTo_82 rfl (lv_at hl 3 rfl) ?_
    refine va_get (D := D) (ci := 0) (v := .int k_p1_height) (C := RX0) (T := TX0) (N := 13) hx hb hts iw_wsX1_addsTo_X0 hown hK hP 1 rfl rfl 1 (by decide) (hts (.fieldLink RX1 26 "BargeBasin$Chart" "height" "I") (List.mem_of_getElem? (i := 2) (by decide +kernel))) (fun _ h9 => h9) rfl dX1_addsTo_83 ?_
    replace hf := ob_b hf
    obtain ⟨⟨zr_14, k_seed_15⟩, hc_16, hf⟩ := hf
    replace hf := ob_un2 hf
    have hPc := hP.sub (ws' := [(a_t, .inr (1, [.int k_seed_11]))]) [0] rfl
    have hDc := hD.sub (ws' := [(a_t, .inr (1, [.int k_seed_11]))]) [0] (by decide) rfl
    have hFc := va_free (wc := [(a_t, .inr (1, [.int k_seed_11]))]) hD hS hA [0] rfl
    refine va_calli (va_runV (As := [.int k_p1_height]) (rest := []) ⟨hx, hb, hml, hown, hts⟩ (c_f_Draw_below l D cT H.size a_t k_seed_11 k_p1_height _ _ hc_16) (cwV 1 hts gX1_addsTo_X1_below rfl rfl rfl (by decide +kernel) ⟨Nat.le_of_ble_eq_true rfl, Nat.le_of_ble_eq_true rfl⟩) ⟨fun a U g mk q => by obtain ⟨q0, q1, qP, qK, qN, qD⟩ := q; exact ⟨q0, q1, qP, va_K.moved (u := U) (U := U.calling g mk a) (Vm.Alike.refl U.vm) qK, jNw_same (u := U) (U := U.calling g mk a) rfl qN, qD⟩, va_recv hK hP (ci := 1) (q0 := 0) rfl rfl, fun U hU hW => ⟨rfl, by rw [hU], by rw [hU]; exact hPc, va_K.moved hW.alike hK, jNw_warm hW hN, hDc.weaken (fun _ _ _ _ => trivial)⟩⟩ rfl rfl hl.1 rfl (lv_room (Nat.le_of_ble_eq_true rfl)) dX1_addsTo_86 ⟨Nat.le_of_ble_eq_true rfl, Nat.le_of_ble_eq_true rfl⟩) hS (fun q _ h => hFc q h) hFc (fun r_14 u t H1 locs ht hvm er_17 hB hz1 hk1 hS => ?_)
    subst er_17
    obtain ⟨hP1, hK1, hD1⟩ := hB
    rw [ht] at hP1
    have hPD := va_join (wr := [(a_p1, .inr (0, [.int k_p1_width, .int k_p1_height, .int k_p1_barges, .long k_p1_walls, .long k_p1_taken, .ref a_p1_kind, .ref a_p1_place, .ref a_p1_length, .ref a_p1_gate, .ref a_p1_across, .ref a_p1_wide, .ref a_p1_high, .ref a_p1_shape])), (a_p1_kind, .inl (cT 0, 12, .inl k_p1_kind)), (a_p1_place, .inl (cT 0, 12, .inl k_p1_place)), (a_p1_length, .inl (cT 0, 12, .inl k_p1_length)), (a_p1_gate, .inl (cT 0, 12, .inl k_p1_gate)), (a_p1_across, .inl (cT 2, 12, .inl k_p1_across)), (a_p1_wide, .inl (cT 0, 12, .inl k_p1_wide)), (a_p1_high, .inl (cT 0, 12, .inl k_p1_high)), (a_p1_shape, .inl (cT 1, 12, .inr (.inl k_p1_shape)))]) (w1 := [(a_t, .inr (1, [.int k_seed_15]))]) hP hD [0] [1, 2, 3, 4, 5, 6, 7, 8, 9] rfl rfl (by decide) (by decide) hk1 hFc hP1 hD1
    clear hP hD
    obtain ⟨hP, hD⟩ := hPD
    replace hP := hP.sub (ws' := [(a_t, .inr (1, [.int k_seed_15])), (a_p1, .inr (0, [.int k_p1_width, .int k_p1_height, .int k_p1_barges, .long k_p1_walls, .long k_p1_taken, .ref a_p1_kind, .ref a_p1_place, .ref a_p1_length, .ref a_p1_gate, .ref a_p1_across, .ref a_p1_wide, .ref a_p1_high, .ref a_p1_shape])), (a_p1_kind, .inl (cT 0, 12, .inl k_p1_kind)), (a_p1_place, .inl (cT 0, 12, .inl k_p1_place)), (a_p1_length, .inl (cT 0, 12, .inl k_p1_length)), (a_p1_gate, .inl (cT 0, 12, .inl k_p1_gate)), (a_p1_across, .inl (cT 2, 12, .inl k_p1_across)), (a_p1_wide, .inl (cT 0, 12, .inl k_p1_wide)), (a_p1_high, .inl (cT 0, 12, .inl k_p1_high)), (a_p1_shape, .inl (cT 1, 12, .inr (.inl k_p1_shape)))]) [9, 0, 1, 2, 3, 4, 5, 6, 7, 8] rfl
    replace hD := hD.sub (ws' := [(a_t, .inr (1, [.int k_seed_15])), (a_p1, .inr (0, [.int k_p1_width, .int k_p1_height, .int k_p1_barges, .long k_p1_walls, .long k_p1_taken, .ref a_p1_kind, .ref a_p1_place, .ref a_p1_length, .ref a_p1_gate, .ref a_p1_across, .ref a_p1_wide, .ref a_p1_high, .ref a_p1_shape])), (a_p1_kind, .inl (cT 0, 12, .inl k_p1_kind)), (a_p1_place, .inl (cT 0, 12, .inl k_p1_place)), (a_p1_length, .inl (cT 0, 12, .inl k_p1_length)), (a_p1_gate, .inl (cT 0, 12, .inl k_p1_gate)), (a_p1_across, .inl (cT 2, 12, .inl k_p1_across)), (a_p1_wide, .inl (cT 0, 12, .inl k_p1_wide)), (a_p1_high, .inl (cT 0, 12, .inl k_p1_high)), (a_p1_shape, .inl (cT 1, 12, .inr (.inl k_p1_shape)))]) [9, 0, 1, 2, 3, 4, 5, 6, 7, 8] (by decide) rfl
    clear hPc hDc hFc hP1 hK1 hD1 hk1 hz1
    generalize H1 = H at hP hS ⊢
    refine lv_istore (lv' := [(7, .int r_14), (6, .int r_10), (5, .int s0), (0, .ref a_t), (1, .ref a_p1), (3, .int v3), (4, .int v4)]) hx hb dX1_addsTo_89 hl (by decide) rfl (fun ls hl => ?_)
    refine lv_aload_n hx hb dX1_addsTo_91 rfl (lv_at hl 4 rfl) ?_
    refine lv_iload_n hx hb dX1_addsTo_92 rfl (lv_at hl 5 rfl) ?_
    refine lv_iload hx hb dX1_addsTo_93 (lv_at hl 1 rfl) ?_
    refine lv_iload hx hb dX1_addsTo_95 (lv_at hl 0 rfl) ?_
    refine lv_iload hx hb dX1_addsTo_97 (lv_at hl 6 rfl) ?_
    refine lv_iload hx hb dX1_addsTo_99 (lv_at hl 2 rfl) ?_
    replace hf := ob_b hf
    obtain ⟨zr_18, hc_19, hf⟩ := hf
    refine vp_callSi (W.runV (As := [.int v3, .int r_10, .int r_14, .int v4, .int s0]) (rest := []) ⟨hx, hb, hml, hown, hts⟩ (c_f_Chart_fits l D cT a_p1 a_p1_kind a_p1_place a_p1_length a_p1_gate a_p1_across a_p1_wide a_p1_high a_p1_shape k_p1_width k_p1_height k_p1_barges k_p1_walls k_p1_taken v3 r_10 r_14 v4 s0 _ hc_19) (cwV 5 hts gX1_addsTo_X0_fits rfl rfl rfl (by decide +kernel) ⟨Nat.le_of_ble_eq_true rfl, Nat.le_of_ble_eq_true rfl⟩) ⟨fun a U g mk q => by obtain ⟨q0, qP, qK, qN⟩ := q; exact ⟨q0, qP, va_K.moved (u := U) (U := U.calling g mk a) (Vm.Alike.refl U.vm) qK, jNw_same (u := U) (U := U.calling g mk a) rfl qN⟩, va_recv hK hP (ci := 0) (q0 := 1) rfl rfl, fun U hU hW => ⟨rfl, by rw [hU]; exact hP.sub [1] rfl, va_K.moved hW.alike hK, jNw_warm hW hN⟩⟩ rfl rfl hl.1 rfl (lv_room (Nat.le_of_ble_eq_true rfl)) dX1_addsTo_101 ⟨Nat.le_of_ble_eq_true rfl, Nat.le_of_ble_eq_true rfl⟩) (fun r_18 er_20 => ?_)
    subst er_20
    refine lv_if_ne (tgt := 109) hx hb dX1_addsTo_104 (by decide) (fun c_21 => ?_) (fun c_21 => ?_)
    · replace hf := ob_neg c_21 hf
      refine lv_aload_n hx hb dX1_addsTo_109 rfl (lv_at hl 4 rfl) ?_
      refine lv_iload_n hx hb dX1_addsTo_110 rfl (lv_at hl 5 rfl) ?_
      refine lv_bipush (v := 8) hx hb dX1_addsTo_111 (by decide) ?_
      refine lv_iload hx hb dX1_addsTo_113 (lv_at hl 0 rfl) ?_
      refine lv_imul hx hb dX1_addsTo_115 ?_
      refine lv_iload hx hb dX1_addsTo_116 (lv_at hl 1 rfl) ?_
      refine lv_iadd hx hb dX1_addsTo_118 ?_
      refine lv_iload hx hb dX1_addsTo_119 (lv_at hl 6 rfl) ?_
      refine lv_iload hx hb dX1_addsTo_121 (lv_at hl 2 rfl) ?_
      replace hf := ob_b hf
      obtain ⟨⟨k_p1_barges_22, k_p1_taken_23, k_p1_kind_24, k_p1_place_25, k_p1_length_26, k_p1_gate_27, k_p1_across_28, k_p1_wide_29, k_p1_high_30, k_p1_shape_31⟩, hc_32, hf⟩ := hf
      replace hf := ob_un10 hf
      have hPc := hP.sub (ws' := [(a_p1, .inr (0, [.int k_p1_width, .int k_p1_height, .int k_p1_barges, .long k_p1_walls, .long k_p1_taken, .ref a_p1_kind, .ref a_p1_place, .ref a_p1_length, .ref a_p1_gate, .ref a_p1_across, .ref a_p1_wide, .ref a_p1_high, .ref a_p1_shape])), (a_p1_kind, .inl (cT 0, 12, .inl k_p1_kind)), (a_p1_place, .inl (cT 0, 12, .inl k_p1_place)), (a_p1_length, .inl (cT 0, 12, .inl k_p1_length)), (a_p1_gate, .inl (cT 0, 12, .inl k_p1_gate)), (a_p1_across, .inl (cT 2, 12, .inl k_p1_across)), (a_p1_wide, .inl (cT 0, 12, .inl k_p1_wide)), (a_p1_high, .inl (cT 0, 12, .inl k_p1_high)), (a_p1_shape, .inl (cT 1, 12, .inr (.inl k_p1_shape)))]) [1, 2, 3, 4, 5, 6, 7, 8, 9] rfl
      have hDc := hD.sub (ws' := [(a_p1, .inr (0, [.int k_p1_width, .int k_p1_height, .int k_p1_barges, .long k_p1_walls, .long k_p1_taken, .ref a_p1_kind, .ref a_p1_place, .ref a_p1_length, .ref a_p1_gate, .ref a_p1_across, .ref a_p1_wide, .ref a_p1_high, .ref a_p1_shape])), (a_p1_kind, .inl (cT 0, 12, .inl k_p1_kind)), (a_p1_place, .inl (cT 0, 12, .inl k_p1_place)), (a_p1_length, .inl (cT 0, 12, .inl k_p1_length)), (a_p1_gate, .inl (cT 0, 12, .inl k_p1_gate)), (a_p1_across, .inl (cT 2, 12, .inl k_p1_across)), (a_p1_wide, .inl (cT 0, 12, .inl k_p1_wide)), (a_p1_high, .inl (cT 0, 12, .inl k_p1_high)), (a_p1_shape, .inl (cT 1, 12, .inr (.inl k_p1_shape)))]) [1, 2, 3, 4, 5, 6, 7, 8, 9] (by decide) rfl
      have hFc := va_free (wc := [(a_p1, .inr (0, [.int k_p1_width, .int k_p1_height, .int k_p1_barges, .long k_p1_walls, .long k_p1_taken, .ref a_p1_kind, .ref a_p1_place, .ref a_p1_length, .ref a_p1_gate, .ref a_p1_across, .ref a_p1_wide, .ref a_p1_high, .ref a_p1_shape])), (a_p1_kind, .inl (cT 0, 12, .inl k_p1_kind)), (a_p1_place, .inl (cT 0, 12, .inl k_p1_place)), (a_p1_length, .inl (cT 0, 12, .inl k_p1_length)), (a_p1_gate, .inl (cT 0, 12, .inl k_p1_gate)), (a_p1_across, .inl (cT 2, 12, .inl k_p1_across)), (a_p1_wide, .inl (cT 0, 12, .inl k_p1_wide)), (a_p1_high, .inl (cT 0, 12, .inl k_p1_high)), (a_p1_shape, .inl (cT 1, 12, .inr (.inl k_p1_shape)))]) hD hS hA [1, 2, 3, 4, 5, 6, 7, 8, 9] rfl
      refine va_callv (va_runV (As := [.int v3, .int ((((8 : Int32)) * r_14) + r_10), .int v4, .int s0]) (rest := []) ⟨hx, hb, hml, hown, hts⟩ (c_f_Chart_add l D cT H.size a_p1 a_p1_kind a_p1_place a_p1_length a_p1_gate a_p1_across a_p1_wide a_p1_high a_p1_shape k_p1_width k_p1_height k_p1_barges k_p1_walls k_p1_taken k_p1_kind k_p1_place k_p1_length k_p1_gate k_p1_across k_p1_wide k_p1_high k_p1_shape v3 ((((8 : Int32)) * r_14) + r_10) v4 s0 _ _ _ _ _ _ _ _ _ _ hc_32) (cwV 4 hts gX1_addsTo_X0_add rfl rfl rfl (by decide +kernel) ⟨Nat.le_of_ble_eq_true rfl, Nat.le_of_ble_eq_true rfl⟩) ⟨fun a U g mk q => by obtain ⟨q0, q1, qP, qK, qN, qD⟩ := q; exact ⟨q0, q1, qP, va_K.moved (u := U) (U := U.calling g mk a) (Vm.Alike.refl U.vm) qK, jNw_same (u := U) (U := U.calling g mk a) rfl qN, qD⟩, va_recv hK hP (ci := 0) (q0 := 1) rfl rfl, fun U hU hW => ⟨rfl, by rw [hU], by rw [hU]; exact hPc, va_K.moved hW.alike hK, jNw_warm hW hN, hDc.weaken (fun _ _ _ _ => trivial)⟩⟩ rfl rfl hl.1 rfl (lv_room (Nat.le_of_ble_eq_true rfl)) dX1_addsTo_123 ⟨Nat.le_of_ble_eq_true rfl, Nat.le_of_ble_eq_true rfl⟩) hS (fun q _ h => hFc q h) hFc (fun u t H1 locs ht hvm er_33 hB hz1 hk1 hS => ?_)
      obtain ⟨hP1, hK1, hD1⟩ := hB
      rw [ht] at hP1
      have hPD := va_join (wr := [(a_t, .inr (1, [.int k_seed_15]))]) (w1 := [(a_p1, .inr (0, [.int k_p1_width, .int k_p1_height, .int k_p1_barges_22, .long k_p1_walls, .long k_p1_taken_23, .ref a_p1_kind, .ref a_p1_place, .ref a_p1_length, .ref a_p1_gate, .ref a_p1_across, .ref a_p1_wide, .ref a_p1_high, .ref a_p1_shape])), (a_p1_kind, .inl (cT 0, 12, .inl k_p1_kind_24)), (a_p1_place, .inl (cT 0, 12, .inl k_p1_place_25)), (a_p1_length, .inl (cT 0, 12, .inl k_p1_length_26)), (a_p1_gate, .inl (cT 0, 12, .inl k_p1_gate_27)), (a_p1_across, .inl (cT 2, 12, .inl k_p1_across_28)), (a_p1_wide, .inl (cT 0, 12, .inl k_p1_wide_29)), (a_p1_high, .inl (cT 0, 12, .inl k_p1_high_30)), (a_p1_shape, .inl (cT 1, 12, .inr (.inl k_p1_shape_31)))]) hP hD [1, 2, 3, 4, 5, 6, 7, 8, 9] [0] rfl rfl (by decide) (by decide) hk1 hFc hP1 hD1
      clear hP hD
      obtain ⟨hP, hD⟩ := hPD
      replace hP := hP.sub (ws' := [(a_t, .inr (1, [.int k_seed_15])), (a_p1, .inr (0, [.int k_p1_width, .int k_p1_height, .int k_p1_barges_22, .long k_p1_walls, .long k_p1_taken_23, .ref a_p1_kind, .ref a_p1_place, .ref a_p1_length, .ref a_p1_gate, .ref a_p1_across, .ref a_p1_wide, .ref a_p1_high, .ref a_p1_shape])), (a_p1_kind, .inl (cT 0, 12, .inl k_p1_kind_24)), (a_p1_place, .inl (cT 0, 12, .inl k_p1_place_25)), (a_p1_length, .inl (cT 0, 12, .inl k_p1_length_26)), (a_p1_gate, .inl (cT 0, 12, .inl k_p1_gate_27)), (a_p1_across, .inl (cT 2, 12, .inl k_p1_across_28)), (a_p1_wide, .inl (cT 0, 12, .inl k_p1_wide_29)), (a_p1_high, .inl (cT 0, 12, .inl k_p1_high_30)), (a_p1_shape, .inl (cT 1, 12, .inr (.inl k_p1_shape_31)))]) [0, 1, 2, 3, 4, 5, 6, 7, 8, 9] rfl
      replace hD := hD.sub (ws' := [(a_t, .inr (1, [.int k_seed_15])), (a_p1, .inr (0, [.int k_p1_width, .int k_p1_height, .int k_p1_barges_22, .long k_p1_walls, .long k_p1_taken_23, .ref a_p1_kind, .ref a_p1_place, .ref a_p1_length, .ref a_p1_gate, .ref a_p1_across, .ref a_p1_wide, .ref a_p1_high, .ref a_p1_shape])), (a_p1_kind, .inl (cT 0, 12, .inl k_p1_kind_24)), (a_p1_place, .inl (cT 0, 12, .inl k_p1_place_25)), (a_p1_length, .inl (cT 0, 12, .inl k_p1_length_26)), (a_p1_gate, .inl (cT 0, 12, .inl k_p1_gate_27)), (a_p1_across, .inl (cT 2, 12, .inl k_p1_across_28)), (a_p1_wide, .inl (cT 0, 12, .inl k_p1_wide_29)), (a_p1_high, .inl (cT 0, 12, .inl k_p1_high_30)), (a_p1_shape, .inl (cT 1, 12, .inr (.inl k_p1_shape_31)))]) [0, 1, 2, 3, 4, 5, 6, 7, 8, 9] (by decide) rfl
      clear hPc hDc hFc hP1 hK1 hD1 hk1 hz1
      generalize H1 = H at hP hS ⊢
      refine lv_iconst (v := 1) hx hb dX1_addsTo_126 (by decide) ?_
      replace hf := ob_t12 hf
      obtain ⟨ee0, ee1, ee2, ee3, ee4, ee5, ee6, ee7, ee8, ee9, ee10, ee11⟩ := hf
      subst ee0
      subst ee1
      subst ee2
      subst ee3
      subst ee4
      subst ee5
      subst ee6
      subst ee7
      subst ee8
      subst ee9
      subst ee10
      subst ee11
      subst hQ
      exact W.zret hx hb hr (by decide +kernel) (fun t ht hW => ⟨⟨_, (), rfl, rfl, by rw [ht]; exact hP, va_K.moved hW.alike hK, hD⟩, hS.F ht⟩) hS.2.2 dX1_addsTo_127
    · replace hf := ob_pos c_21 hf
      refine lv_iconst (v := 0) hx hb dX1_addsTo_107 (by decide) ?_
      replace hf := ob_t12 hf
      obtain ⟨ee0, ee1, ee2, ee3, ee4, ee5, ee6, ee7, ee8, ee9, ee10, ee11⟩ := hf
      subst ee0
      subst ee1
      subst ee2
      subst ee3
      subst ee4
      subst ee5
      subst ee6
      subst ee7
      subst ee8
      subst ee9
      subst ee10
      subst ee11
      subst hQ
      exact W.zret hx hb hr (by decide +kernel) (fun t ht hW => ⟨⟨_, (), rfl, rfl, by rw [ht]; exact hP, va_K.moved hW.alike hK, hD⟩, hS.F ht⟩) hS.2.2 dX1_addsTo_108
  have J64 : ∀ (v3 : Int32) (v4 : Int32) (k_seed : Int32) (k_p1_barges : Int32) (k_p1_taken : Int64) (k_p1_kind : Nat → Int32) (k_p1_place : Nat → Int32) (k_p1_length : Nat → Int32) (k_p1_gate : Nat → Int32) (k_p1_across : Nat → Int32) (k_p1_wide : Nat → Int32) (k_p1_high : Nat → Int32) (k_p1_shape : Nat → Int64), f_Draw_addsTo_J64 v3 v4 k_seed k_p1_width k_p1_height k_p1_barges k_p1_walls k_p1_taken k_p1_kind k_p1_place k_p1_length k_p1_gate k_p1_across k_p1_wide k_p1_high k_p1_shape = some (r0, k_seed₉, k_p1_barges₉, k_p1_taken₉, k_p1_kind₉, k_p1_place₉, k_p1_length₉, k_p1_gate₉, k_p1_across₉, k_p1_wide₉, k_p1_high₉, k_p1_shape₉) → ∀ (H : Heap) (locs : List Loc), va_P D vwCl [(a_t, .inr (1, [.int k_seed])), (a_p1, .inr (0, [.int k_p1_width, .int k_p1_height, .int k_p1_barges, .long k_p1_walls, .long k_p1_taken, .ref a_p1_kind, .ref a_p1_place, .ref a_p1_length, .ref a_p1_gate, .ref a_p1_across, .ref a_p1_wide, .ref a_p1_high, .ref a_p1_shape])), (a_p1_kind, .inl (cT 0, 12, .inl k_p1_kind)), (a_p1_place, .inl (cT 0, 12, .inl k_p1_place)), (a_p1_length, .inl (cT 0, 12, .inl k_p1_length)), (a_p1_gate, .inl (cT 0, 12, .inl k_p1_gate)), (a_p1_across, .inl (cT 2, 12, .inl k_p1_across)), (a_p1_wide, .inl (cT 0, 12, .inl k_p1_wide)), (a_p1_high, .inl (cT 0, 12, .inl k_p1_high)), (a_p1_shape, .inl (cT 1, 12, .inr (.inl k_p1_shape)))] H → va_D A [(a_t, .inr (1, [.int k_seed])), (a_p1, .inr (0, [.int k_p1_width, .int k_p1_height, .int k_p1_barges, .long k_p1_walls, .long k_p1_taken, .ref a_p1_kind, .ref a_p1_place, .ref a_p1_length, .ref a_p1_gate, .ref a_p1_across, .ref a_p1_wide, .ref a_p1_high, .ref a_p1_shape])), (a_p1_kind, .inl (cT 0, 12, .inl k_p1_kind)), (a_p1_place, .inl (cT 0, 12, .inl k_p1_place)), (a_p1_length, .inl (cT 0, 12, .inl k_p1_length)), (a_p1_gate, .inl (cT 0, 12, .inl k_p1_gate)), (a_p1_across, .inl (cT 2, 12, .inl k_p1_across)), (a_p1_wide, .inl (cT 0, 12, .inl k_p1_wide)), (a_p1_high, .inl (cT 0, 12, .inl k_p1_high)), (a_p1_shape, .inl (cT 1, 12, .inr (.inl k_p1_shape)))] → va_S A s.heap H locs → ∀ (ls : Array Slot), lv_has ls 8 [(0, .ref a_t), (1, .ref a_p1), (3, .int v3), (4, .int v4)] → W p l e (headSpec wsX1_addsTo rm_Draw_addsTo).room s m ([.ref a_t, .ref a_p1] : List Value).toArray below meth c H locs 0 0 Q (F0 m 64 ls []) := by
    intro v3 v4 k_seed k_p1_barges k_p1_taken k_p1_kind k_p1_place k_p1_length k_p1_gate k_p1_across k_p1_wide k_p1_high k_p1_shape hf H locs hP hD hS ls hl
    unfold f_Draw_addsTo_J64 at hf
    refine lv_iconst (v := 1) hx hb dX1_addsTo_64 (by decide) ?_
    refine lv_goto (tgt := 69) hx hb dX1_addsTo_65 (by decide) ?_
    exact J69 _ _ _ _ _ _ _ _ _ _ _ _ _ _ hf _ _ hP hD hS ls (lv_sub hl [0, 1, 2, 3] rfl)
  have J52 : ∀ (v2 : Int32) (v3 : Int32) (s0 : Int32) (k_seed : Int32) (k_p1_barges : Int32) (k_p1_taken : Int64) (k_p1_kind : Nat → Int32) (k_p1_place : Nat → Int32) (k_p1_length : Nat → Int32) (k_p1_gate : Nat → Int32) (k_p1_across : Nat → Int32) (k_p1_wide : Nat → Int32) (k_p1_high : Nat → Int32) (k_p1_shape : Nat → Int64), f_Draw_addsTo_J52 v2 v3 s0 k_seed k_p1_width k_p1_height k_p1_barges k_p1_walls k_p1_taken k_p1_kind k_p1_place k_p1_length k_p1_gate k_p1_across k_p1_wide k_p1_high k_p1_shape = some (r0, k_seed₉, k_p1_barges₉, k_p1_taken₉, k_p1_kind₉, k_p1_place₉, k_p1_length₉, k_p1_gate₉, k_p1_across₉, k_p1_wide₉, k_p1_high₉, k_p1_shape₉) → ∀ (H : Heap) (locs : List Loc), va_P D vwCl [(a_t, .inr (1, [.int k_seed])), (a_p1, .inr (0, [.int k_p1_width, .int k_p1_height, .int k_p1_barges, .long k_p1_walls, .long k_p1_taken, .ref a_p1_kind, .ref a_p1_place, .ref a_p1_length, .ref a_p1_gate, .ref a_p1_across, .ref a_p1_wide, .ref a_p1_high, .ref a_p1_shape])), (a_p1_kind, .inl (cT 0, 12, .inl k_p1_kind)), (a_p1_place, .inl (cT 0, 12, .inl k_p1_place)), (a_p1_length, .inl (cT 0, 12, .inl k_p1_length)), (a_p1_gate, .inl (cT 0, 12, .inl k_p1_gate)), (a_p1_across, .inl (cT 2, 12, .inl k_p1_across)), (a_p1_wide, .inl (cT 0, 12, .inl k_p1_wide)), (a_p1_high, .inl (cT 0, 12, .inl k_p1_high)), (a_p1_shape, .inl (cT 1, 12, .inr (.inl k_p1_shape)))] H → va_D A [(a_t, .inr (1, [.int k_seed])), (a_p1, .inr (0, [.int k_p1_width, .int k_p1_height, .int k_p1_barges, .long k_p1_walls, .long k_p1_taken, .ref a_p1_kind, .ref a_p1_place, .ref a_p1_length, .ref a_p1_gate, .ref a_p1_across, .ref a_p1_wide, .ref a_p1_high, .ref a_p1_shape])), (a_p1_kind, .inl (cT 0, 12, .inl k_p1_kind)), (a_p1_place, .inl (cT 0, 12, .inl k_p1_place)), (a_p1_length, .inl (cT 0, 12, .inl k_p1_length)), (a_p1_gate, .inl (cT 0, 12, .inl k_p1_gate)), (a_p1_across, .inl (cT 2, 12, .inl k_p1_across)), (a_p1_wide, .inl (cT 0, 12, .inl k_p1_wide)), (a_p1_high, .inl (cT 0, 12, .inl k_p1_high)), (a_p1_shape, .inl (cT 1, 12, .inr (.inl k_p1_shape)))] → va_S A s.heap H locs → ∀ (ls : Array Slot), lv_has ls 8 [(0, .ref a_t), (1, .ref a_p1), (2, .int v2), (3, .int v3)] → W p l e (headSpec wsX1_addsTo rm_Draw_addsTo).room s m ([.ref a_t, .ref a_p1] : List Value).toArray below meth c H locs 0 0 Q (F0 m 52 ls [.int s0]) := by
    intro v2 v3 s0 k_seed k_p1_barges k_p1_taken k_p1_kind k_p1_place k_p1_length k_p1_gate k_p1_across k_p1_wide k_p1_high k_p1_shape hf H locs hP hD hS ls hl
    unfold f_Draw_addsTo_J52 at hf
    refine lv_istore (lv' := [(4, .int s0), (0, .ref a_t), (1, .ref a_p1), (2, .int v2), (3, .int v3)]) hx hb dX1_addsTo_52 hl (by decide) rfl (fun ls hl => ?_)
    refine lv_iload_n hx hb dX1_addsTo_54 rfl (lv_at hl 3 rfl) ?_
    refine lv_iconst (v := 1) hx hb dX1_addsTo_55 (by decide) ?_
    refine lv_icmp_eq (tgt := 64) hx hb dX1_addsTo_56 (by decide) (fun c_9 => ?_) (fun c_9 => ?_)
    · replace hf := ob_pos c_9 hf
      exact J64 _ _ _ _ _ _ _ _ _ _ _ _ _ hf _ _ hP hD hS ls (lv_sub hl [1, 2, 4, 0] rfl)
    · replace hf := ob_neg c_9 hf
      refine lv_iload_n hx hb dX1_addsTo_59 rfl (lv_at hl 3 rfl) ?_
      refine lv_iconst (v := 2) hx hb dX1_addsTo_60 (by decide) ?_
      refine lv_icmp_ne (tgt := 68) hx hb dX1_addsTo_61 (by decide) (fun c_34 => ?_) (fun c_34 => ?_)
      · replace hf := ob_neg c_34 hf
        refine lv_iconst (v := 0) hx hb dX1_addsTo_68 (by decide) ?_
        exact J69 _ _ _ _ _ _ _ _ _ _ _ _ _ _ hf _ _ hP hD hS ls (lv_sub hl [1, 2, 4, 0] rfl)
      · replace hf := ob_pos c_34 hf
        exact J64 _ _ _ _ _ _ _ _ _ _ _ _ _ hf _ _ hP hD hS ls (lv_sub hl [1, 2, 4, 0] rfl)
  have J26 : ∀ (v2 : Int32) (s0 : Int32) (k_seed : Int32) (k_p1_barges : Int32) (k_p1_taken : Int64) (k_p1_kind : Nat → Int32) (k_p1_place : Nat → Int32) (k_p1_length : Nat → Int32) (k_p1_gate : Nat → Int32) (k_p1_across : Nat → Int32) (k_p1_wide : Nat → Int32) (k_p1_high : Nat → Int32) (k_p1_shape : Nat → Int64), f_Draw_addsTo_J26 v2 s0 k_seed k_p1_width k_p1_height k_p1_barges k_p1_walls k_p1_taken k_p1_kind k_p1_place k_p1_length k_p1_gate k_p1_across k_p1_wide k_p1_high k_p1_shape = some (r0, k_seed₉, k_p1_barges₉, k_p1_taken₉, k_p1_kind₉, k_p1_place₉, k_p1_length₉, k_p1_gate₉, k_p1_across₉, k_p1_wide₉, k_p1_high₉, k_p1_shape₉) → ∀ (H : Heap) (locs : List Loc), va_P D vwCl [(a_t, .inr (1, [.int k_seed])), (a_p1, .inr (0, [.int k_p1_width, .int k_p1_height, .int k_p1_barges, .long k_p1_walls, .long k_p1_taken, .ref a_p1_kind, .ref a_p1_place, .ref a_p1_length, .ref a_p1_gate, .ref a_p1_across, .ref a_p1_wide, .ref a_p1_high, .ref a_p1_shape])), (a_p1_kind, .inl (cT 0, 12, .inl k_p1_kind)), (a_p1_place, .inl (cT 0, 12, .inl k_p1_place)), (a_p1_length, .inl (cT 0, 12, .inl k_p1_length)), (a_p1_gate, .inl (cT 0, 12, .inl k_p1_gate)), (a_p1_across, .inl (cT 2, 12, .inl k_p1_across)), (a_p1_wide, .inl (cT 0, 12, .inl k_p1_wide)), (a_p1_high, .inl (cT 0, 12, .inl k_p1_high)), (a_p1_shape, .inl (cT 1, 12, .inr (.inl k_p1_shape)))] H → va_D A [(a_t, .inr (1, [.int k_seed])), (a_p1, .inr (0, [.int k_p1_width, .int k_p1_height, .int k_p1_barges, .long k_p1_walls, .long k_p1_taken, .ref a_p1_kind, .ref a_p1_place, .ref a_p1_length, .ref a_p1_gate, .ref a_p1_across, .ref a_p1_wide, .ref a_p1_high, .ref a_p1_shape])), (a_p1_kind, .inl (cT 0, 12, .inl k_p1_kind)), (a_p1_place, .inl (cT 0, 12, .inl k_p1_place)), (a_p1_length, .inl (cT 0, 12, .inl k_p1_length)), (a_p1_gate, .inl (cT 0, 12, .inl k_p1_gate)), (a_p1_across, .inl (cT 2, 12, .inl k_p1_across)), (a_p1_wide, .inl (cT 0, 12, .inl k_p1_wide)), (a_p1_high, .inl (cT 0, 12, .inl k_p1_high)), (a_p1_shape, .inl (cT 1, 12, .inr (.inl k_p1_shape)))] → va_S A s.heap H locs → ∀ (ls : Array Slot), lv_has ls 8 [(0, .ref a_t), (1, .ref a_p1), (2, .int v2)] → W p l e (headSpec wsX1_addsTo rm_Draw_addsTo).room s m ([.ref a_t, .ref a_p1] : List Value).toArray below meth c H locs 0 0 Q (F0 m 26 ls [.int s0]) := by
    intro v2 s0 k_seed k_p1_barges k_p1_taken k_p1_kind k_p1_place k_p1_length k_p1_gate k_p1_across k_p1_wide k_p1_high k_p1_shape hf H locs hP hD hS ls hl
    unfold f_Draw_addsTo_J26 at hf
    refine lv_istore_n (lv' := [(3, .int s0), (0, .ref a_t), (1, .ref a_p1), (2, .int v2)]) hx hb dX1_addsTo_26 rfl hl (by decide) rfl (fun ls hl => ?_)
    refine lv_iload_n hx hb dX1_addsTo_27 rfl (lv_at hl 0 rfl) ?_
    refine lv_iconst (v := 1) hx hb dX1_addsTo_28 (by decide) ?_
    refine lv_icmp_ne (tgt := 42) hx hb dX1_addsTo_29 (by decide) (fun c_7 => ?_) (fun c_7 => ?_)
    · replace hf := ob_neg c_7 hf
      refine lv_iload_n hx hb dX1_addsTo_42 rfl (lv_at hl 0 rfl) ?_
      refine lv_iconst (v := 3) hx hb dX1_addsTo_43 (by decide) ?_
      refine lv_icmp_ne (tgt := 51) hx hb dX1_addsTo_44 (by decide) (fun c_8 => ?_) (fun c_8 => ?_)
      · replace hf := ob_neg c_8 hf
        refine lv_iconst (v := 1) hx hb dX1_addsTo_51 (by decide) ?_
        exact J52 _ _ _ _ _ _ _ _ _ _ _ _ _ _ hf _ _ hP hD hS ls (lv_sub hl [1, 2, 3, 0] rfl)
      · replace hf := ob_pos c_8 hf
        refine lv_iconst (v := 2) hx hb dX1_addsTo_47 (by decide) ?_
        refine lv_goto (tgt := 52) hx hb dX1_addsTo_48 (by decide) ?_
        exact J52 _ _ _ _ _ _ _ _ _ _ _ _ _ _ hf _ _ hP hD hS ls (lv_sub hl [1, 2, 3, 0] rfl)
    · replace hf := ob_pos c_7 hf
      refine lv_aload_n hx hb dX1_addsTo_32 rfl (lv_at hl 1 rfl) ?_
      refine lv_iconst (v := 3) hx hb dX1_addsTo_33 (by decide) ?_
      replace hf := ob_b hf
      obtain ⟨⟨zr_35, k_seed_36⟩, hc_37, hf⟩ := hf
      replace hf := ob_un2 hf
      have hPc := hP.sub (ws' := [(a_t, .inr (1, [.int k_seed]))]) [0] rfl
      have hDc := hD.sub (ws' := [(a_t, .inr (1, [.int k_seed]))]) [0] (by decide) rfl
      have hFc := va_free (wc := [(a_t, .inr (1, [.int k_seed]))]) hD hS hA [0] rfl
      refine va_calli (va_runV (As := [.int ((3 : Int32))]) (rest := []) ⟨hx, hb, hml, hown, hts⟩ (c_f_Draw_below l D cT H.size a_t k_seed ((3 : Int32)) _ _ hc_37) (cwV 1 hts gX1_addsTo_X1_below rfl rfl rfl (by decide +kernel) ⟨Nat.le_of_ble_eq_true rfl, Nat.le_of_ble_eq_true rfl⟩) ⟨fun a U g mk q => by obtain ⟨q0, q1, qP, qK, qN, qD⟩ := q; exact ⟨q0, q1, qP, va_K.moved (u := U) (U := U.calling g mk a) (Vm.Alike.refl U.vm) qK, jNw_same (u := U) (U := U.calling g mk a) rfl qN, qD⟩, va_recv hK hP (ci := 1) (q0 := 0) rfl rfl, fun U hU hW => ⟨rfl, by rw [hU], by rw [hU]; exact hPc, va_K.moved hW.alike hK, jNw_warm hW hN, hDc.weaken (fun _ _ _ _ => trivial)⟩⟩ rfl rfl hl.1 rfl (lv_room (Nat.le_of_ble_eq_true rfl)) dX1_addsTo_34 ⟨Nat.le_of_ble_eq_true rfl, Nat.le_of_ble_eq_true rfl⟩) hS (fun q _ h => hFc q h) hFc (fun r_35 u t H1 locs ht hvm er_38 hB hz1 hk1 hS => ?_)
      subst er_38
      obtain ⟨hP1, hK1, hD1⟩ := hB
      rw [ht] at hP1
      have hPD := va_join (wr := [(a_p1, .inr (0, [.int k_p1_width, .int k_p1_height, .int k_p1_barges, .long k_p1_walls, .long k_p1_taken, .ref a_p1_kind, .ref a_p1_place, .ref a_p1_length, .ref a_p1_gate, .ref a_p1_across, .ref a_p1_wide, .ref a_p1_high, .ref a_p1_shape])), (a_p1_kind, .inl (cT 0, 12, .inl k_p1_kind)), (a_p1_place, .inl (cT 0, 12, .inl k_p1_place)), (a_p1_length, .inl (cT 0, 12, .inl k_p1_length)), (a_p1_gate, .inl (cT 0, 12, .inl k_p1_gate)), (a_p1_across, .inl (cT 2, 12, .inl k_p1_across)), (a_p1_wide, .inl (cT 0, 12, .inl k_p1_wide)), (a_p1_high, .inl (cT 0, 12, .inl k_p1_high)), (a_p1_shape, .inl (cT 1, 12, .inr (.inl k_p1_shape)))]) (w1 := [(a_t, .inr (1, [.int k_seed_36]))]) hP hD [0] [1, 2, 3, 4, 5, 6, 7, 8, 9] rfl rfl (by decide) (by decide) hk1 hFc hP1 hD1
      clear hP hD
      obtain ⟨hP, hD⟩ := hPD
      replace hP := hP.sub (ws' := [(a_t, .inr (1, [.int k_seed_36])), (a_p1, .inr (0, [.int k_p1_width, .int k_p1_height, .int k_p1_barges, .long k_p1_walls, .long k_p1_taken, .ref a_p1_kind, .ref a_p1_place, .ref a_p1_length, .ref a_p1_gate, .ref a_p1_across, .ref a_p1_wide, .ref a_p1_high, .ref a_p1_shape])), (a_p1_kind, .inl (cT 0, 12, .inl k_p1_kind)), (a_p1_place, .inl (cT 0, 12, .inl k_p1_place)), (a_p1_length, .inl (cT 0, 12, .inl k_p1_length)), (a_p1_gate, .inl (cT 0, 12, .inl k_p1_gate)), (a_p1_across, .inl (cT 2, 12, .inl k_p1_across)), (a_p1_wide, .inl (cT 0, 12, .inl k_p1_wide)), (a_p1_high, .inl (cT 0, 12, .inl k_p1_high)), (a_p1_shape, .inl (cT 1, 12, .inr (.inl k_p1_shape)))]) [9, 0, 1, 2, 3, 4, 5, 6, 7, 8] rfl
      replace hD := hD.sub (ws' := [(a_t, .inr (1, [.int k_seed_36])), (a_p1, .inr (0, [.int k_p1_width, .int k_p1_height, .int k_p1_barges, .long k_p1_walls, .long k_p1_taken, .ref a_p1_kind, .ref a_p1_place, .ref a_p1_length, .ref a_p1_gate, .ref a_p1_across, .ref a_p1_wide, .ref a_p1_high, .ref a_p1_shape])), (a_p1_kind, .inl (cT 0, 12, .inl k_p1_kind)), (a_p1_place, .inl (cT 0, 12, .inl k_p1_place)), (a_p1_length, .inl (cT 0, 12, .inl k_p1_length)), (a_p1_gate, .inl (cT 0, 12, .inl k_p1_gate)), (a_p1_across, .inl (cT 2, 12, .inl k_p1_across)), (a_p1_wide, .inl (cT 0, 12, .inl k_p1_wide)), (a_p1_high, .inl (cT 0, 12, .inl k_p1_high)), (a_p1_shape, .inl (cT 1, 12, .inr (.inl k_p1_shape)))]) [9, 0, 1, 2, 3, 4, 5, 6, 7, 8] (by decide) rfl
      clear hPc hDc hFc hP1 hK1 hD1 hk1 hz1
      generalize H1 = H at hP hS ⊢
      refine lv_iconst (v := 2) hx hb dX1_addsTo_37 (by decide) ?_
      refine lv_iadd hx hb dX1_addsTo_38 ?_
      refine lv_goto (tgt := 52) hx hb dX1_addsTo_39 (by decide) ?_
      exact J52 _ _ _ _ _ _ _ _ _ _ _ _ _ _ hf _ _ hP hD hS ls (lv_sub hl [1, 2, 3, 0] rfl)
  refine j_start (A := A) hP (fun H locs hP hS => ?_)
  unfold f_Draw_addsTo at hf
  refine lv_aload_n hx hb dX1_addsTo_0 rfl (lv_at hl 0 rfl) ?_
  refine lv_bipush (v := 6) hx hb dX1_addsTo_1 (by decide) ?_
  replace hf := ob_b hf
  obtain ⟨⟨zr_1, k_seed_2⟩, hc_3, hf⟩ := hf
  replace hf := ob_un2 hf
  have hPc := hP.sub (ws' := [(a_t, .inr (1, [.int k_seed]))]) [0] rfl
  have hDc := hD.sub (ws' := [(a_t, .inr (1, [.int k_seed]))]) [0] (by decide) rfl
  have hFc := va_free (wc := [(a_t, .inr (1, [.int k_seed]))]) hD hS hA [0] rfl
  refine va_calli (va_runV (As := [.int ((6 : Int32))]) (rest := []) ⟨hx, hb, hml, hown, hts⟩ (c_f_Draw_below l D cT H.size a_t k_seed ((6 : Int32)) _ _ hc_3) (cwV 1 hts gX1_addsTo_X1_below rfl rfl rfl (by decide +kernel) ⟨Nat.le_of_ble_eq_true rfl, Nat.le_of_ble_eq_true rfl⟩) ⟨fun a U g mk q => by obtain ⟨q0, q1, qP, qK, qN, qD⟩ := q; exact ⟨q0, q1, qP, va_K.moved (u := U) (U := U.calling g mk a) (Vm.Alike.refl U.vm) qK, jNw_same (u := U) (U := U.calling g mk a) rfl qN, qD⟩, va_recv hK hP (ci := 1) (q0 := 0) rfl rfl, fun U hU hW => ⟨rfl, by rw [hU], by rw [hU]; exact hPc, va_K.moved hW.alike hK, jNw_warm hW hN, hDc.weaken (fun _ _ _ _ => trivial)⟩⟩ rfl rfl hl.1 rfl (lv_room (Nat.le_of_ble_eq_true rfl)) dX1_addsTo_3 ⟨Nat.le_of_ble_eq_true rfl, Nat.le_of_ble_eq_true rfl⟩) hS (fun q _ h => hFc q h) hFc (fun r_1 u t H1 locs ht hvm er_4 hB hz1 hk1 hS => ?_)
  subst er_4
  obtain ⟨hP1, hK1, hD1⟩ := hB
  rw [ht] at hP1
  have hPD := va_join (wr := [(a_p1, .inr (0, [.int k_p1_width, .int k_p1_height, .int k_p1_barges, .long k_p1_walls, .long k_p1_taken, .ref a_p1_kind, .ref a_p1_place, .ref a_p1_length, .ref a_p1_gate, .ref a_p1_across, .ref a_p1_wide, .ref a_p1_high, .ref a_p1_shape])), (a_p1_kind, .inl (cT 0, 12, .inl k_p1_kind)), (a_p1_place, .inl (cT 0, 12, .inl k_p1_place)), (a_p1_length, .inl (cT 0, 12, .inl k_p1_length)), (a_p1_gate, .inl (cT 0, 12, .inl k_p1_gate)), (a_p1_across, .inl (cT 2, 12, .inl k_p1_across)), (a_p1_wide, .inl (cT 0, 12, .inl k_p1_wide)), (a_p1_high, .inl (cT 0, 12, .inl k_p1_high)), (a_p1_shape, .inl (cT 1, 12, .inr (.inl k_p1_shape)))]) (w1 := [(a_t, .inr (1, [.int k_seed_2]))]) hP hD [0] [1, 2, 3, 4, 5, 6, 7, 8, 9] rfl rfl (by decide) (by decide) hk1 hFc hP1 hD1
  clear hP hD
  obtain ⟨hP, hD⟩ := hPD
  replace hP := hP.sub (ws' := [(a_t, .inr (1, [.int k_seed_2])), (a_p1, .inr (0, [.int k_p1_width, .int k_p1_height, .int k_p1_barges, .long k_p1_walls, .long k_p1_taken, .ref a_p1_kind, .ref a_p1_place, .ref a_p1_length, .ref a_p1_gate, .ref a_p1_across, .ref a_p1_wide, .ref a_p1_high, .ref a_p1_shape])), (a_p1_kind, .inl (cT 0, 12, .inl k_p1_kind)), (a_p1_place, .inl (cT 0, 12, .inl k_p1_place)), (a_p1_length, .inl (cT 0, 12, .inl k_p1_length)), (a_p1_gate, .inl (cT 0, 12, .inl k_p1_gate)), (a_p1_across, .inl (cT 2, 12, .inl k_p1_across)), (a_p1_wide, .inl (cT 0, 12, .inl k_p1_wide)), (a_p1_high, .inl (cT 0, 12, .inl k_p1_high)), (a_p1_shape, .inl (cT 1, 12, .inr (.inl k_p1_shape)))]) [9, 0, 1, 2, 3, 4, 5, 6, 7, 8] rfl
  replace hD := hD.sub (ws' := [(a_t, .inr (1, [.int k_seed_2])), (a_p1, .inr (0, [.int k_p1_width, .int k_p1_height, .int k_p1_barges, .long k_p1_walls, .long k_p1_taken, .ref a_p1_kind, .ref a_p1_place, .ref a_p1_length, .ref a_p1_gate, .ref a_p1_across, .ref a_p1_wide, .ref a_p1_high, .ref a_p1_shape])), (a_p1_kind, .inl (cT 0, 12, .inl k_p1_kind)), (a_p1_place, .inl (cT 0, 12, .inl k_p1_place)), (a_p1_length, .inl (cT 0, 12, .inl k_p1_length)), (a_p1_gate, .inl (cT 0, 12, .inl k_p1_gate)), (a_p1_across, .inl (cT 2, 12, .inl k_p1_across)), (a_p1_wide, .inl (cT 0, 12, .inl k_p1_wide)), (a_p1_high, .inl (cT 0, 12, .inl k_p1_high)), (a_p1_shape, .inl (cT 1, 12, .inr (.inl k_p1_shape)))]) [9, 0, 1, 2, 3, 4, 5, 6, 7, 8] (by decide) rfl
  clear hPc hDc hFc hP1 hK1 hD1 hk1 hz1
  generalize H1 = H at hP hS ⊢
  refine lv_istore_n (lv' := [(2, .int r_1), (0, .ref a_t), (1, .ref a_p1)]) hx hb dX1_addsTo_6 rfl hl (by decide) rfl (fun ls hl => ?_)
  refine lv_iload_n hx hb dX1_addsTo_7 rfl (lv_at hl 0 rfl) ?_
  refine lv_iconst (v := 3) hx hb dX1_addsTo_8 (by decide) ?_
  refine lv_icmp_ne (tgt := 16) hx hb dX1_addsTo_9 (by decide) (fun c_5 => ?_) (fun c_5 => ?_)
  · replace hf := ob_neg c_5 hf
    refine lv_iload_n hx hb dX1_addsTo_16 rfl (lv_at hl 0 rfl) ?_
    refine lv_iconst (v := 4) hx hb dX1_addsTo_17 (by decide) ?_
    refine lv_icmp_ne (tgt := 25) hx hb dX1_addsTo_18 (by decide) (fun c_6 => ?_) (fun c_6 => ?_)
    · replace hf := ob_neg c_6 hf
      refine lv_iconst (v := 1) hx hb dX1_addsTo_25 (by decide) ?_
      exact J26 _ _ _ _ _ _ _ _ _ _ _ _ _ hf _ _ hP hD hS ls (lv_sub hl [1, 2, 0] rfl)
    · replace hf := ob_pos c_6 hf
      refine lv_iconst (v := 3) hx hb dX1_addsTo_21 (by decide) ?_
      refine lv_goto (tgt := 26) hx hb dX1_addsTo_22 (by decide) ?_
      exact J26 _ _ _ _ _ _ _ _ _ _ _ _ _ hf _ _ hP hD hS ls (lv_sub hl [1, 2, 0] rfl)
  · replace hf := ob_pos c_5 hf
    refine lv_iconst (v := 2) hx hb dX1_addsTo_12 (by decide) ?_
    refine lv_goto (tgt := 26) hx hb dX1_addsTo_13 (by decide) ?_
    exact J26 _ _ _ _ _ _ _ _ _ _ _ _ _ hf _ _ hP hD hS ls (lv_sub hl [1, 2, 0] rfl)
theorem iw_wsX2_init_X2 : ∀ w ∈ wsX20, w ∈ wsX2_init := fun _ h => List.mem_cons_of_mem _ (List.mem_append_right _ h)
abbrev rm_Lines_init : Room := { frames := 1, cells := 4, slots := 88, locals := 12 }
set_option maxHeartbeats 4000000 in
set_option maxRecDepth 100000 in
theorem c_f_Lines_init (l : Launch) (D : va_G) (cT : Nat → ClassId) (sz : Nat) (a_t : Nat) (hf : f_Lines_init  = some ()) : Met l yX2_init wsX2_init rm_Lines_init (va_Pc [.ref a_t] (fun U => U.heap.size = sz ∧ va_P D vwCl [(a_t, .inr (2, [.null, .null, .null, .null]))] U.heap ∧ va_K D vwCl (jT cT) U ∧ jNw U ∧ va_D (fun _ => True) [(a_t, .inr (2, [.null, .null, .null, .null]))])) (va_Qv (fun _ : Unit => True) (fun (_ : Unit) t => ∃ (a_sort a_size a_numbers a_carried : Nat), va_P D vwCl [(a_t, .inr (2, [.ref a_sort, .ref a_size, .ref a_numbers, .ref a_carried])), (a_sort, .inl (cT 0, 8, .inl (fun _ => (0 : Int32)))), (a_size, .inl (cT 0, 8, .inl (fun _ => (0 : Int32)))), (a_numbers, .inl (cT 0, 64, .inl (fun _ => (0 : Int32)))), (a_carried, .inl (cT 0, 8, .inl (fun _ => (0 : Int32))))] t.heap ∧ va_K D vwCl (jT cT) t ∧ va_D (va_A [(a_t, .inr (2, [.null, .null, .null, .null]))] sz) [(a_t, .inr (2, [.ref a_sort, .ref a_size, .ref a_numbers, .ref a_carried])), (a_sort, .inl (cT 0, 8, .inl (fun _ => (0 : Int32)))), (a_size, .inl (cT 0, 8, .inl (fun _ => (0 : Int32)))), (a_numbers, .inl (cT 0, 64, .inl (fun _ => (0 : Int32)))), (a_carried, .inl (cT 0, 8, .inl (fun _ => (0 : Int32))))]) (va_A [(a_t, .inr (2, [.null, .null, .null, .null]))] sz)) 4 88 (va_A [(a_t, .inr (2, [.null, .null, .null, .null]))] sz) := by
  refine Met.ofW (cc := cX2_init) (maxL := 1) (ret := none) (by decide) rfl ?_
  intro p e s m args below meth c s₁ B hml hv
  obtain ⟨rfl, hsz, hP, hK, hN, hD0⟩ := hv
  have hx := B.exec
  have hb := B.bytes
  have hr := B.returns
  have hts := atoms_spec (ws := wsX2_init) B.pre
  have hown : s.vm.findClass RX2 = some m.cls := findClass_of_methodNamed B.named
  have hlocks := B.notSynchronized
  have hin : meth.name = "<init>" := (name_of_methodNamed B.named B.method).1
  subst hsz
  have hD := hD0.self (sz := s.heap.size)
  clear hD0
  generalize hAe : va_A [(a_t, .inr (2, [.null, .null, .null, .null]))] s.heap.size = A at hD ⊢
  have hA : ∀ q : Nat, s.heap.size ≤ q → A q := fun q h => by rw [← hAe]; exact Or.inr h
  clear hAe
  have hl := lv_entry ([.ref a_t]) (n := 1) (Nat.le_of_ble_eq_true rfl)
  rw [lg_entry_eq]
  generalize (lg_sl ([.ref a_t]) ++ List.replicate (1 - (lg_sl ([.ref a_t])).length) Slot.unset).toArray = ls at hl ⊢
  have hl : lv_has ls 1 [(0, .ref a_t)] := hl
  refine j_start (A := A) hP (fun H locs hP hS => ?_)
  unfold f_Lines_init at hf
  refine lv_aload_n hx hb dX2_init_0 rfl (lv_at hl 0 rfl) ?_
  refine W.objInit hx hb hown (hts (.methodLink RX2 3 objectInit) (List.mem_of_getElem? (i := 1) (by decide +kernel))) (hts (.instanceMethod objectInit) (List.mem_of_getElem? (i := 2) (by decide +kernel))) (hts _ (by decide +kernel)) rfl (by rw [hml]; exact hl.1) rfl dX2_init_1 (Nat.le_of_ble_eq_true rfl) (Nat.le_of_ble_eq_true rfl) ?_
  refine W.eq (g2 := F0 m 4 ls []) rfl ?_
  refine lv_aload_n hx hb dX2_init_4 rfl (lv_at hl 0 rfl) ?_
  refine lv_bipush (v := 8) hx hb dX2_init_5 (by decide) ?_
  refine jnewa (atype := .int) (t0 := 0) (ty := .int) (N2 := 8) (a0 := (8, .inl (fun _ => 0))) hx hb (hts (.arrayClass .int) (List.mem_of_getElem? (i := 4) (by decide +kernel))) rfl hK hP hD hS hA rfl (fun _ => rfl) (by decide) (by decide) (by decide) (Nat.le_of_ble_eq_true rfl) (Nat.le_of_ble_eq_true rfl) dX2_init_7 (fun a_n7 H hP hD hS => ?_)
  replace hP : va_P D vwCl [(a_t, .inr (2, [.null, .null, .null, .null])), (a_n7, .inl (cT 0, 8, .inl (fun _ => (0 : Int32))))] H := hP
  replace hD : va_D A [(a_t, .inr (2, [.null, .null, .null, .null])), (a_n7, .inl (cT 0, 8, .inl (fun _ => (0 : Int32))))] := hD
  refine W.widen (k := 1) (n := 8) (Nat.le_of_ble_eq_true rfl) (Nat.le_of_ble_eq_true rfl) ?_
  refine va_putF (D := D) (ci := 2) (v := .ref a_n7) (ty := (.array .int)) (C := RX2) (T := TX2) (N := 4) hx hb hts iw_wsX2_init_X2 tyX2 tyX2_ok nmX2 hown hK hP hD hS 0 rfl rfl 0 (by decide) (hts (.fieldLink RX2 9 "BargeBasin$Lines" "sort" "[I") (List.mem_of_getElem? (i := 5) (by decide +kernel))) (fun _ h9 => h9) rfl hin rfl (by decide +kernel) rfl rfl (Nat.le_of_ble_eq_true rfl) dX2_init_9 (fun H locs hP hD hS => ?_)
  replace hP : va_P D vwCl [(a_t, .inr (2, [.ref a_n7, .null, .null, .null])), (a_n7, .inl (cT 0, 8, .inl (fun _ => (0 : Int32))))] H := hP
  replace hD : va_D A [(a_t, .inr (2, [.ref a_n7, .null, .null, .null])), (a_n7, .inl (cT 0, 8, .inl (fun _ => (0 : Int32))))] := hD
  refine lv_aload_n hx hb dX2_init_12 rfl (lv_at hl 0 rfl) ?_
  refine lv_bipush (v := 8) hx hb dX2_init_13 (by decide) ?_
  refine jnewa (atype := .int) (t0 := 0) (ty := .int) (N2 := 8) (a0 := (8, .inl (fun _ => 0))) hx hb (hts (.arrayClass .int) (List.mem_of_getElem? (i := 4) (by decide +kernel))) rfl hK hP hD hS hA rfl (fun _ => rfl) (by decide) (by decide) (by decide) (Nat.le_of_ble_eq_true rfl) (Nat.le_of_ble_eq_true rfl) dX2_init_15 (fun a_n15 H hP hD hS => ?_)
  replace hP : va_P D vwCl [(a_t, .inr (2, [.ref a_n7, .null, .null, .null])), (a_n7, .inl (cT 0, 8, .inl (fun _ => (0 : Int32)))), (a_n15, .inl (cT 0, 8, .inl (fun _ => (0 : Int32))))] H := hP
  replace hD : va_D A [(a_t, .inr (2, [.ref a_n7, .null, .null, .null])), (a_n7, .inl (cT 0, 8, .inl (fun _ => (0 : Int32)))), (a_n15, .inl (cT 0, 8, .inl (fun _ => (0 : Int32))))] := hD
  refine W.widen (k := 2) (n := 16) (Nat.le_of_ble_eq_true rfl) (Nat.le_of_ble_eq_true rfl) ?_
  refine va_putF (D := D) (ci := 2) (v := .ref a_n15) (ty := (.array .int)) (C := RX2) (T := TX2) (N := 4) hx hb hts iw_wsX2_init_X2 tyX2 tyX2_ok nmX2 hown hK hP hD hS 0 rfl rfl 1 (by decide) (hts (.fieldLink RX2 15 "BargeBasin$Lines" "size" "[I") (List.mem_of_getElem? (i := 6) (by decide +kernel))) (fun _ h9 => h9) rfl hin rfl (by decide +kernel) rfl rfl (Nat.le_of_ble_eq_true rfl) dX2_init_17 (fun H locs hP hD hS => ?_)
  replace hP : va_P D vwCl [(a_t, .inr (2, [.ref a_n7, .ref a_n15, .null, .null])), (a_n7, .inl (cT 0, 8, .inl (fun _ => (0 : Int32)))), (a_n15, .inl (cT 0, 8, .inl (fun _ => (0 : Int32))))] H := hP
  replace hD : va_D A [(a_t, .inr (2, [.ref a_n7, .ref a_n15, .null, .null])), (a_n7, .inl (cT 0, 8, .inl (fun _ => (0 : Int32)))), (a_n15, .inl (cT 0, 8, .inl (fun _ => (0 : Int32))))] := hD
  refine lv_aload_n hx hb dX2_init_20 rfl (lv_at hl 0 rfl) ?_
  refine lv_bipush (v := 64) hx hb dX2_init_21 (by decide) ?_
  refine jnewa (atype := .int) (t0 := 0) (ty := .int) (N2 := 64) (a0 := (64, .inl (fun _ => 0))) hx hb (hts (.arrayClass .int) (List.mem_of_getElem? (i := 4) (by decide +kernel))) rfl hK hP hD hS hA rfl (fun _ => rfl) (by decide) (by decide) (by decide) (Nat.le_of_ble_eq_true rfl) (Nat.le_of_ble_eq_true rfl) dX2_init_23 (fun a_n23 H hP hD hS => ?_)
  replace hP : va_P D vwCl [(a_t, .inr (2, [.ref a_n7, .ref a_n15, .null, .null])), (a_n7, .inl (cT 0, 8, .inl (fun _ => (0 : Int32)))), (a_n15, .inl (cT 0, 8, .inl (fun _ => (0 : Int32)))), (a_n23, .inl (cT 0, 64, .inl (fun _ => (0 : Int32))))] H := hP
  replace hD : va_D A [(a_t, .inr (2, [.ref a_n7, .ref a_n15, .null, .null])), (a_n7, .inl (cT 0, 8, .inl (fun _ => (0 : Int32)))), (a_n15, .inl (cT 0, 8, .inl (fun _ => (0 : Int32)))), (a_n23, .inl (cT 0, 64, .inl (fun _ => (0 : Int32))))] := hD
  refine W.widen (k := 3) (n := 80) (Nat.le_of_ble_eq_true rfl) (Nat.le_of_ble_eq_true rfl) ?_
  refine va_putF (D := D) (ci := 2) (v := .ref a_n23) (ty := (.array .int)) (C := RX2) (T := TX2) (N := 4) hx hb hts iw_wsX2_init_X2 tyX2 tyX2_ok nmX2 hown hK hP hD hS 0 rfl rfl 2 (by decide) (hts (.fieldLink RX2 18 "BargeBasin$Lines" "numbers" "[I") (List.mem_of_getElem? (i := 7) (by decide +kernel))) (fun _ h9 => h9) rfl hin rfl (by decide +kernel) rfl rfl (Nat.le_of_ble_eq_true rfl) dX2_init_25 (fun H locs hP hD hS => ?_)
  replace hP : va_P D vwCl [(a_t, .inr (2, [.ref a_n7, .ref a_n15, .ref a_n23, .null])), (a_n7, .inl (cT 0, 8, .inl (fun _ => (0 : Int32)))), (a_n15, .inl (cT 0, 8, .inl (fun _ => (0 : Int32)))), (a_n23, .inl (cT 0, 64, .inl (fun _ => (0 : Int32))))] H := hP
  replace hD : va_D A [(a_t, .inr (2, [.ref a_n7, .ref a_n15, .ref a_n23, .null])), (a_n7, .inl (cT 0, 8, .inl (fun _ => (0 : Int32)))), (a_n15, .inl (cT 0, 8, .inl (fun _ => (0 : Int32)))), (a_n23, .inl (cT 0, 64, .inl (fun _ => (0 : Int32))))] := hD
  refine lv_aload_n hx hb dX2_init_28 rfl (lv_at hl 0 rfl) ?_
  refine lv_bipush (v := 8) hx hb dX2_init_29 (by decide) ?_
  refine jnewa (atype := .int) (t0 := 0) (ty := .int) (N2 := 8) (a0 := (8, .inl (fun _ => 0))) hx hb (hts (.arrayClass .int) (List.mem_of_getElem? (i := 4) (by decide +kernel))) rfl hK hP hD hS hA rfl (fun _ => rfl) (by decide) (by decide) (by decide) (Nat.le_of_ble_eq_true rfl) (Nat.le_of_ble_eq_true rfl) dX2_init_31 (fun a_n31 H hP hD hS => ?_)
  replace hP : va_P D vwCl [(a_t, .inr (2, [.ref a_n7, .ref a_n15, .ref a_n23, .null])), (a_n7, .inl (cT 0, 8, .inl (fun _ => (0 : Int32)))), (a_n15, .inl (cT 0, 8, .inl (fun _ => (0 : Int32)))), (a_n23, .inl (cT 0, 64, .inl (fun _ => (0 : Int32)))), (a_n31, .inl (cT 0, 8, .inl (fun _ => (0 : Int32))))] H := hP
  replace hD : va_D A [(a_t, .inr (2, [.ref a_n7, .ref a_n15, .ref a_n23, .null])), (a_n7, .inl (cT 0, 8, .inl (fun _ => (0 : Int32)))), (a_n15, .inl (cT 0, 8, .inl (fun _ => (0 : Int32)))), (a_n23, .inl (cT 0, 64, .inl (fun _ => (0 : Int32)))), (a_n31, .inl (cT 0, 8, .inl (fun _ => (0 : Int32))))] := hD
  refine W.widen (k := 4) (n := 88) (Nat.le_of_ble_eq_true rfl) (Nat.le_of_ble_eq_true rfl) ?_
  refine va_putF (D := D) (ci := 2) (v := .ref a_n31) (ty := (.array .int)) (C := RX2) (T := TX2) (N := 4) hx hb hts iw_wsX2_init_X2 tyX2 tyX2_ok nmX2 hown hK hP hD hS 0 rfl rfl 3 (by decide) (hts (.fieldLink RX2 21 "BargeBasin$Lines" "carried" "[I") (List.mem_of_getElem? (i := 8) (by decide +kernel))) (fun _ h9 => h9) rfl hin rfl (by decide +kernel) rfl rfl (Nat.le_of_ble_eq_true rfl) dX2_init_33 (fun H locs hP hD hS => ?_)
  replace hP : va_P D vwCl [(a_t, .inr (2, [.ref a_n7, .ref a_n15, .ref a_n23, .ref a_n31])), (a_n7, .inl (cT 0, 8, .inl (fun _ => (0 : Int32)))), (a_n15, .inl (cT 0, 8, .inl (fun _ => (0 : Int32)))), (a_n23, .inl (cT 0, 64, .inl (fun _ => (0 : Int32)))), (a_n31, .inl (cT 0, 8, .inl (fun _ => (0 : Int32))))] H := hP
  replace hD : va_D A [(a_t, .inr (2, [.ref a_n7, .ref a_n15, .ref a_n23, .ref a_n31])), (a_n7, .inl (cT 0, 8, .inl (fun _ => (0 : Int32)))), (a_n15, .inl (cT 0, 8, .inl (fun _ => (0 : Int32)))), (a_n23, .inl (cT 0, 64, .inl (fun _ => (0 : Int32)))), (a_n31, .inl (cT 0, 8, .inl (fun _ => (0 : Int32))))] := hD
  cases hf
  refine W.widen (k := 4) (n := 88) (Nat.le_of_ble_eq_true rfl) (Nat.le_of_ble_eq_true rfl) ?_
  exact W.vret hx hb hr (fun t ht hW => ⟨⟨(), rfl, trivial, a_n7, a_n15, a_n23, a_n31, by rw [ht]; exact hP, va_K.moved hW.alike hK, hD⟩, hS.F ht⟩) hS.2.2 dX2_init_36
theorem iw_wsX2_tearOff_X2 : ∀ w ∈ wsX20, w ∈ wsX2_tearOff := fun _ h => List.mem_cons_of_mem _ (List.mem_append_right _ h)
abbrev rm_Lines_tearOff : Room := { frames := 0, cells := 0, slots := 0, locals := 0 }
set_option maxHeartbeats 4000000 in
set_option maxRecDepth 100000 in
theorem c_f_Lines_tearOff (l : Launch) (D : va_G) (cT : Nat → ClassId) (sz : Nat) (a_t a_sort a_size a_numbers a_carried : Nat) (k_sort : Nat → Int32) (v1 : Int32) (k_sort₉ : Nat → Int32) (hf : f_Lines_tearOff v1 k_sort = some k_sort₉) : Met l yX2_tearOff wsX2_tearOff rm_Lines_tearOff (va_Pc [.ref a_t, .int v1] (fun U => U.heap.size = sz ∧ va_P D vwCl [(a_t, .inr (2, [.ref a_sort, .ref a_size, .ref a_numbers, .ref a_carried])), (a_sort, .inl (cT 0, 8, .inl k_sort))] U.heap ∧ va_K D vwCl (jT cT) U ∧ jNw U ∧ va_D (fun _ => True) [(a_t, .inr (2, [.ref a_sort, .ref a_size, .ref a_numbers, .ref a_carried])), (a_sort, .inl (cT 0, 8, .inl k_sort))])) (va_Qv (fun _ : Unit => True) (fun (_ : Unit) t => va_P D vwCl [(a_t, .inr (2, [.ref a_sort, .ref a_size, .ref a_numbers, .ref a_carried])), (a_sort, .inl (cT 0, 8, .inl k_sort₉))] t.heap ∧ va_K D vwCl (jT cT) t ∧ va_D (va_A [(a_t, .inr (2, [.ref a_sort, .ref a_size, .ref a_numbers, .ref a_carried])), (a_sort, .inl (cT 0, 8, .inl k_sort))] sz) [(a_t, .inr (2, [.ref a_sort, .ref a_size, .ref a_numbers, .ref a_carried])), (a_sort, .inl (cT 0, 8, .inl k_sort₉))]) (va_A [(a_t, .inr (2, [.ref a_sort, .ref a_size, .ref a_numbers, .ref a_carried])), (a_sort, .inl (cT 0, 8, .inl k_sort))] sz)) 0 0 (va_A [(a_t, .inr (2, [.ref a_sort, .ref a_size, .ref a_numbers, .ref a_carried])), (a_sort, .inl (cT 0, 8, .inl k_sort))] sz) := by
  refine Met.ofW (cc := cX2_tearOff) (maxL := 2) (ret := none) (by decide) rfl ?_
  intro p e s m args below meth c s₁ B hml hv
  obtain ⟨rfl, hsz, hP, hK, hN, hD0⟩ := hv
  have hx := B.exec
  have hb := B.bytes
  have hr := B.returns
  have hts := atoms_spec (ws := wsX2_tearOff) B.pre
  have hown : s.vm.findClass RX2 = some m.cls := findClass_of_methodNamed B.named
  have hlocks := B.notSynchronized
  subst hsz
  have hD := hD0.self (sz := s.heap.size)
  clear hD0
  generalize hAe : va_A [(a_t, .inr (2, [.ref a_sort, .ref a_size, .ref a_numbers, .ref a_carried])), (a_sort, .inl (cT 0, 8, .inl k_sort))] s.heap.size = A at hD ⊢
  have hA : ∀ q : Nat, s.heap.size ≤ q → A q := fun q h => by rw [← hAe]; exact Or.inr h
  clear hAe
  have hl := lv_entry ([.ref a_t, .int v1]) (n := 2) (Nat.le_of_ble_eq_true rfl)
  rw [lg_entry_eq]
  generalize (lg_sl ([.ref a_t, .int v1]) ++ List.replicate (2 - (lg_sl ([.ref a_t, .int v1])).length) Slot.unset).toArray = ls at hl ⊢
  have hl : lv_has ls 2 [(0, .ref a_t), (1, .int v1)] := hl
  refine j_start (A := A) hP (fun H locs hP hS => ?_)
  unfold f_Lines_tearOff at hf
  refine lv_aload_n hx hb dX2_tearOff_0 rfl (lv_at hl 0 rfl) ?_
  refine va_get (D := D) (ci := 2) (v := .ref a_sort) (C := RX2) (T := TX2) (N := 4) hx hb hts iw_wsX2_tearOff_X2 hown hK hP 0 rfl rfl 0 (by decide) (hts (.fieldLink RX2 9 "BargeBasin$Lines" "sort" "[I") (List.mem_of_getElem? (i := 1) (by decide +kernel))) (fun _ h9 => h9) rfl dX2_tearOff_1 ?_
  refine lv_iload_n hx hb dX2_tearOff_4 rfl (lv_at hl 1 rfl) ?_
  refine lv_iconst (v := -1) hx hb dX2_tearOff_5 (by decide) ?_
  replace hf := ob_grd hf
  obtain ⟨hi_1, hf⟩ := hf
  refine va_iast hx hb hK hP hD hS 1 0 rfl rfl hi_1 dX2_tearOff_6 (fun H locs hP hD hS => ?_)
  replace hP : va_P D vwCl [(a_t, .inr (2, [.ref a_sort, .ref a_size, .ref a_numbers, .ref a_carried])), (a_sort, .inl (cT 0, 8, .inl (upd k_sort v1.toNatClampNeg (((-1 : Int32))))))] H := hP
  replace hD : va_D A [(a_t, .inr (2, [.ref a_sort, .ref a_size, .ref a_numbers, .ref a_carried])), (a_sort, .inl (cT 0, 8, .inl (upd k_sort v1.toNatClampNeg (((-1 : Int32))))))] := hD
  cases hf
  exact W.vret hx hb hr (fun t ht hW => ⟨⟨(), rfl, trivial, by rw [ht]; exact hP, va_K.moved hW.alike hK, hD⟩, hS.F ht⟩) hS.2.2 dX2_tearOff_7
theorem iw_wsX2_tearAll_X2 : ∀ w ∈ wsX20, w ∈ wsX2_tearAll := fun _ h => List.mem_cons_of_mem _ (List.mem_append_right _ h)
abbrev rm_Lines_tearAll : Room := { frames := 1, cells := 0, slots := 0, locals := 21 }
set_option maxHeartbeats 4000000 in
set_option maxRecDepth 100000 in
theorem l_f_Lines_tearAll_L2 {p : Program} {l : Launch} {e : Env} {s : State} {m : MethodId} {args : Array Value} {below : List Frame} {meth : Method} {c : Code} {Q : State → Prop} {A : Nat → Prop} {D : va_G} {cT : Nat → ClassId} {a_t a_sort a_size a_numbers a_carried : Nat} (hx : p.tables.exec = Jvm.exec) (hb : c.code = cX2_tearAll) (hml : c.maxLocals = 2) (hown : s.vm.findClass RX2 = some m.cls) (hts : ∀ w ∈ wsX2_tearAll, w.before args s = true) (hK : va_K D vwCl (jT cT) s) (hN : jNw s) (hA : ∀ q : Nat, s.heap.size ≤ q → A q) : ∀ (n : Nat) (v1 : Int32) (k_sort : Nat → Int32) (ex : (Nat → Int32)), f_Lines_tearAll_L2  n v1 k_sort = some ex → ∀ (H : Heap) (locs : List Loc), va_P D vwCl [(a_t, .inr (2, [.ref a_sort, .ref a_size, .ref a_numbers, .ref a_carried])), (a_sort, .inl (cT 0, 8, .inl k_sort))] H → va_D A [(a_t, .inr (2, [.ref a_sort, .ref a_size, .ref a_numbers, .ref a_carried])), (a_sort, .inl (cT 0, 8, .inl k_sort))] → va_S A s.heap H locs → ∀ (ls : Array Slot), lv_has ls 2 [(0, .ref a_t), (1, .int v1)] → (∀ (k_sort_6 : Nat → Int32), ex = k_sort_6 → ∀ (H : Heap) (locs : List Loc), va_P D vwCl [(a_t, .inr (2, [.ref a_sort, .ref a_size, .ref a_numbers, .ref a_carried])), (a_sort, .inl (cT 0, 8, .inl k_sort_6))] H → va_D A [(a_t, .inr (2, [.ref a_sort, .ref a_size, .ref a_numbers, .ref a_carried])), (a_sort, .inl (cT 0, 8, .inl k_sort_6))] → va_S A s.heap H locs → ∀ (ls : Array Slot), lv_has ls 2 [] → W p l e (headSpec wsX2_tearAll rm_Lines_tearAll).room s m args below meth c H locs 0 0 Q (F0 m 19 ls [])) → W p l e (headSpec wsX2_tearAll rm_Lines_tearAll).room s m args below meth c H locs 0 0 Q (F0 m 2 ls []) := by
  intro n
  induction n with
  | zero => intro v1 k_sort ex hf; exact (ob_none hf).elim
  | succ n ih =>
    intro v1 k_sort ex hf H locs hP hD hS ls hl K0
    rw [f_Lines_tearAll_L2] at hf
    refine lv_iload_n hx hb dX2_tearAll_2 rfl (lv_at hl 1 rfl) ?_
    refine lv_bipush (v := 8) hx hb dX2_tearAll_3 (by decide) ?_
    refine lv_icmp_ge (tgt := 19) hx hb dX2_tearAll_5 (by decide) (fun c_1 => ?_) (fun c_1 => ?_)
    · replace hf := ob_pos c_1 hf
      cases hf
      exact K0 _ rfl _ _ hP hD hS ls (lv_sub hl [] rfl)
    · replace hf := ob_neg c_1 hf
      refine lv_aload_n hx hb dX2_tearAll_8 rfl (lv_at hl 0 rfl) ?_
      refine lv_iload_n hx hb dX2_tearAll_9 rfl (lv_at hl 1 rfl) ?_
      replace hf := ob_b hf
      obtain ⟨k_sort_2, hc_3, hf⟩ := hf
      have hPc := hP.sub (ws' := [(a_t, .inr (2, [.ref a_sort, .ref a_size, .ref a_numbers, .ref a_carried])), (a_sort, .inl (cT 0, 8, .inl k_sort))]) [0, 1] rfl
      have hDc := hD.sub (ws' := [(a_t, .inr (2, [.ref a_sort, .ref a_size, .ref a_numbers, .ref a_carried])), (a_sort, .inl (cT 0, 8, .inl k_sort))]) [0, 1] (by decide) rfl
      have hFc := va_free (wc := [(a_t, .inr (2, [.ref a_sort, .ref a_size, .ref a_numbers, .ref a_carried])), (a_sort, .inl (cT 0, 8, .inl k_sort))]) hD hS hA [0, 1] rfl
      refine va_callv (va_runV (As := [.int v1]) (rest := []) ⟨hx, hb, hml, hown, hts⟩ (c_f_Lines_tearOff l D cT H.size a_t a_sort a_size a_numbers a_carried k_sort v1 _ hc_3) (cwV 1 hts gX2_tearAll_X2_tearOff rfl rfl rfl (by decide +kernel) ⟨Nat.le_of_ble_eq_true rfl, Nat.le_of_ble_eq_true rfl⟩) ⟨fun a U g mk q => by obtain ⟨q0, q1, qP, qK, qN, qD⟩ := q; exact ⟨q0, q1, qP, va_K.moved (u := U) (U := U.calling g mk a) (Vm.Alike.refl U.vm) qK, jNw_same (u := U) (U := U.calling g mk a) rfl qN, qD⟩, va_recv hK hP (ci := 2) (q0 := 0) rfl rfl, fun U hU hW => ⟨rfl, by rw [hU], by rw [hU]; exact hPc, va_K.moved hW.alike hK, jNw_warm hW hN, hDc.weaken (fun _ _ _ _ => trivial)⟩⟩ rfl rfl hl.1 rfl (lv_room (Nat.le_of_ble_eq_true rfl)) dX2_tearAll_10 ⟨Nat.le_of_ble_eq_true rfl, Nat.le_of_ble_eq_true rfl⟩) hS (fun q _ h => hFc q h) hFc (fun u t H1 locs ht hvm er_4 hB hz1 hk1 hS => ?_)
      obtain ⟨hP1, hK1, hD1⟩ := hB
      rw [ht] at hP1
      have hPD := va_join (wr := []) (w1 := [(a_t, .inr (2, [.ref a_sort, .ref a_size, .ref a_numbers, .ref a_carried])), (a_sort, .inl (cT 0, 8, .inl k_sort_2))]) hP hD [0, 1] [] rfl rfl (by decide) (by decide) hk1 hFc hP1 hD1
      clear hP hD
      obtain ⟨hP, hD⟩ := hPD
      replace hP := hP.sub (ws' := [(a_t, .inr (2, [.ref a_sort, .ref a_size, .ref a_numbers, .ref a_carried])), (a_sort, .inl (cT 0, 8, .inl k_sort_2))]) [0, 1] rfl
      replace hD := hD.sub (ws' := [(a_t, .inr (2, [.ref a_sort, .ref a_size, .ref a_numbers, .ref a_carried])), (a_sort, .inl (cT 0, 8, .inl k_sort_2))]) [0, 1] (by decide) rfl
      clear hPc hDc hFc hP1 hK1 hD1 hk1 hz1
      generalize H1 = H at hP hS ⊢
      obtain ⟨v1_5, ev1_5⟩ : ∃ y : Int32, y = v1 + 1 := ⟨_, rfl⟩
      replace hf := ob_nm ev1_5 hf
      refine lv_iinc (v := v1_5) (lv' := [(1, .int v1_5), (0, .ref a_t)]) hx hb dX2_tearAll_13 hl (k := 1) rfl (by rw [ev1_5]; rfl) (by decide) rfl (fun ls hl => ?_)
      refine lv_goto (tgt := 2) hx hb dX2_tearAll_16 (by decide) ?_
      exact ih _ _ ex hf _ _ hP hD hS ls (lv_sub hl [1, 0] rfl) K0
set_option maxHeartbeats 4000000 in
set_option maxRecDepth 100000 in
theorem c_f_Lines_tearAll (l : Launch) (D : va_G) (cT : Nat → ClassId) (sz : Nat) (a_t a_sort a_size a_numbers a_carried : Nat) (k_sort : Nat → Int32) (k_sort₉ : Nat → Int32) (hf : f_Lines_tearAll k_sort = some k_sort₉) : Met l yX2_tearAll wsX2_tearAll rm_Lines_tearAll (va_Pc [.ref a_t] (fun U => U.heap.size = sz ∧ va_P D vwCl [(a_t, .inr (2, [.ref a_sort, .ref a_size, .ref a_numbers, .ref a_carried])), (a_sort, .inl (cT 0, 8, .inl k_sort))] U.heap ∧ va_K D vwCl (jT cT) U ∧ jNw U ∧ va_D (fun _ => True) [(a_t, .inr (2, [.ref a_sort, .ref a_size, .ref a_numbers, .ref a_carried])), (a_sort, .inl (cT 0, 8, .inl k_sort))])) (va_Qv (fun _ : Unit => True) (fun (_ : Unit) t => va_P D vwCl [(a_t, .inr (2, [.ref a_sort, .ref a_size, .ref a_numbers, .ref a_carried])), (a_sort, .inl (cT 0, 8, .inl k_sort₉))] t.heap ∧ va_K D vwCl (jT cT) t ∧ va_D (va_A [(a_t, .inr (2, [.ref a_sort, .ref a_size, .ref a_numbers, .ref a_carried])), (a_sort, .inl (cT 0, 8, .inl k_sort))] sz) [(a_t, .inr (2, [.ref a_sort, .ref a_size, .ref a_numbers, .ref a_carried])), (a_sort, .inl (cT 0, 8, .inl k_sort₉))]) (va_A [(a_t, .inr (2, [.ref a_sort, .ref a_size, .ref a_numbers, .ref a_carried])), (a_sort, .inl (cT 0, 8, .inl k_sort))] sz)) 0 0 (va_A [(a_t, .inr (2, [.ref a_sort, .ref a_size, .ref a_numbers, .ref a_carried])), (a_sort, .inl (cT 0, 8, .inl k_sort))] sz) := by
  refine Met.ofW (cc := cX2_tearAll) (maxL := 2) (ret := none) (by decide) rfl ?_
  intro p e s m args below meth c s₁ B hml hv
  obtain ⟨rfl, hsz, hP, hK, hN, hD0⟩ := hv
  have hx := B.exec
  have hb := B.bytes
  have hr := B.returns
  have hts := atoms_spec (ws := wsX2_tearAll) B.pre
  have hown : s.vm.findClass RX2 = some m.cls := findClass_of_methodNamed B.named
  have hlocks := B.notSynchronized
  subst hsz
  have hD := hD0.self (sz := s.heap.size)
  clear hD0
  generalize hAe : va_A [(a_t, .inr (2, [.ref a_sort, .ref a_size, .ref a_numbers, .ref a_carried])), (a_sort, .inl (cT 0, 8, .inl k_sort))] s.heap.size = A at hD ⊢
  have hA : ∀ q : Nat, s.heap.size ≤ q → A q := fun q h => by rw [← hAe]; exact Or.inr h
  clear hAe
  have hl := lv_entry ([.ref a_t]) (n := 2) (Nat.le_of_ble_eq_true rfl)
  rw [lg_entry_eq]
  generalize (lg_sl ([.ref a_t]) ++ List.replicate (2 - (lg_sl ([.ref a_t])).length) Slot.unset).toArray = ls at hl ⊢
  have hl : lv_has ls 2 [(0, .ref a_t)] := hl
  refine j_start (A := A) hP (fun H locs hP hS => ?_)
  unfold f_Lines_tearAll at hf
  refine lv_iconst (v := 0) hx hb dX2_tearAll_0 (by decide) ?_
  refine lv_istore_n (lv' := [(1, .int ((0 : Int32))), (0, .ref a_t)]) hx hb dX2_tearAll_1 rfl hl (by decide) rfl (fun ls hl => ?_)
  replace hf := ob_b hf
  obtain ⟨ex_7, hq_8, hf⟩ := hf
  refine l_f_Lines_tearAll_L2 hx hb hml hown hts hK hN hA jN _ _ ex_7 hq_8 _ _ hP hD hS ls (lv_sub hl [1, 0] rfl) (fun k_sort_9 ee_10 H locs hP hD hS ls hl => ?_)
  have ee_10 := ee_10.symm
  subst ee_10
  cases hf
  exact W.vret hx hb hr (fun t ht hW => ⟨⟨(), rfl, trivial, by rw [ht]; exact hP, va_K.moved hW.alike hK, hD⟩, hS.F ht⟩) hS.2.2 dX2_tearAll_19
theorem iw_wsX2_isMissing_X2 : ∀ w ∈ wsX20, w ∈ wsX2_isMissing := fun _ h => List.mem_cons_of_mem _ (List.mem_append_right _ h)
abbrev rm_Lines_isMissing : Room := { frames := 0, cells := 0, slots := 0, locals := 0 }
set_option maxHeartbeats 4000000 in
set_option maxRecDepth 100000 in
theorem c_f_Lines_isMissing (l : Launch) (D : va_G) (cT : Nat → ClassId) (a_t a_sort a_size a_numbers a_carried : Nat) (k_sort : Nat → Int32) (v1 : Int32) (r0 : Int32) (hf : f_Lines_isMissing v1 k_sort = some r0) : Met l yX2_isMissing wsX2_isMissing rm_Lines_isMissing (va_Pc [.ref a_t, .int v1] (fun U => va_P D vwCl [(a_t, .inr (2, [.ref a_sort, .ref a_size, .ref a_numbers, .ref a_carried])), (a_sort, .inl (cT 0, 8, .inl k_sort))] U.heap ∧ va_K D vwCl (jT cT) U ∧ jNw U)) (vp_Si (fun r => r = r0)) 0 0 (fun _ => False) := by
  refine Met.ofW (cc := cX2_isMissing) (maxL := 2) (ret := (some .boolean)) (by decide) rfl ?_
  intro p e s m args below meth c s₁ B hml hv
  obtain ⟨rfl, hP, hK, hN⟩ := hv
  have hx := B.exec
  have hb := B.bytes
  have hr := B.returns
  have hts := atoms_spec (ws := wsX2_isMissing) B.pre
  have hown : s.vm.findClass RX2 = some m.cls := findClass_of_methodNamed B.named
  have hlocks := B.notSynchronized
  have hl := lv_entry ([.ref a_t, .int v1]) (n := 2) (Nat.le_of_ble_eq_true rfl)
  rw [lg_entry_eq]
  generalize (lg_sl ([.ref a_t, .int v1]) ++ List.replicate (2 - (lg_sl ([.ref a_t, .int v1])).length) Slot.unset).toArray = ls at hl ⊢
  have hl : lv_has ls 2 [(0, .ref a_t), (1, .int v1)] := hl
  unfold f_Lines_isMissing at hf
  refine lv_aload_n hx hb dX2_isMissing_0 rfl (lv_at hl 0 rfl) ?_
  refine va_get (D := D) (ci := 2) (v := .ref a_sort) (C := RX2) (T := TX2) (N := 4) hx hb hts iw_wsX2_isMissing_X2 hown hK hP 0 rfl rfl 0 (by decide) (hts (.fieldLink RX2 9 "BargeBasin$Lines" "sort" "[I") (List.mem_of_getElem? (i := 1) (by decide +kernel))) (fun _ h9 => h9) rfl dX2_isMissing_1 ?_
  refine lv_iload_n hx hb dX2_isMissing_4 rfl (lv_at hl 1 rfl) ?_
  replace hf := ob_grd hf
  obtain ⟨hi_1, hf⟩ := hf
  refine va_iald hx hb hK hP 1 0 rfl rfl hi_1 dX2_isMissing_5 ?_
  refine lv_iconst (v := -1) hx hb dX2_isMissing_6 (by decide) ?_
  refine lv_icmp_ne (tgt := 14) hx hb dX2_isMissing_7 (by decide) (fun c_2 => ?_) (fun c_2 => ?_)
  · replace hf := ob_neg c_2 hf
    refine lv_iconst (v := 0) hx hb dX2_isMissing_14 (by decide) ?_
    cases hf
    exact W.zret hx hb hr (by decide +kernel) (fun t ht hW => ⟨_, rfl, rfl, ht⟩) (fun q h => by cases h) dX2_isMissing_15
  · replace hf := ob_pos c_2 hf
    refine lv_iconst (v := 1) hx hb dX2_isMissing_10 (by decide) ?_
    refine lv_goto (tgt := 15) hx hb dX2_isMissing_11 (by decide) ?_
    cases hf
    exact W.zret hx hb hr (by decide +kernel) (fun t ht hW => ⟨_, rfl, rfl, ht⟩) (fun q h => by cases h) dX2_isMissing_15
theorem iw_wsX2_write_X2 : ∀ w ∈ wsX20, w ∈ wsX2_write := fun _ h => List.mem_cons_of_mem _ (List.mem_append_right _ h)
abbrev rm_Lines_write : Room := { frames := 0, cells := 0, slots := 0, locals := 0 }
set_option maxHeartbeats 4000000 in
set_option maxRecDepth 100000 in
theorem c_f_Lines_write (l : Launch) (D : va_G) (cT : Nat → ClassId) (sz : Nat) (a_t a_sort a_size a_numbers a_carried : Nat) (k_numbers : Nat → Int32) (v1 : Int32) (v2 : Int32) (v3 : Int32) (k_numbers₉ : Nat → Int32) (hf : f_Lines_write v1 v2 v3 k_numbers = some k_numbers₉) : Met l yX2_write wsX2_write rm_Lines_write (va_Pc [.ref a_t, .int v1, .int v2, .int v3] (fun U => U.heap.size = sz ∧ va_P D vwCl [(a_t, .inr (2, [.ref a_sort, .ref a_size, .ref a_numbers, .ref a_carried])), (a_numbers, .inl (cT 0, 64, .inl k_numbers))] U.heap ∧ va_K D vwCl (jT cT) U ∧ jNw U ∧ va_D (fun _ => True) [(a_t, .inr (2, [.ref a_sort, .ref a_size, .ref a_numbers, .ref a_carried])), (a_numbers, .inl (cT 0, 64, .inl k_numbers))])) (va_Qv (fun _ : Unit => True) (fun (_ : Unit) t => va_P D vwCl [(a_t, .inr (2, [.ref a_sort, .ref a_size, .ref a_numbers, .ref a_carried])), (a_numbers, .inl (cT 0, 64, .inl k_numbers₉))] t.heap ∧ va_K D vwCl (jT cT) t ∧ va_D (va_A [(a_t, .inr (2, [.ref a_sort, .ref a_size, .ref a_numbers, .ref a_carried])), (a_numbers, .inl (cT 0, 64, .inl k_numbers))] sz) [(a_t, .inr (2, [.ref a_sort, .ref a_size, .ref a_numbers, .ref a_carried])), (a_numbers, .inl (cT 0, 64, .inl k_numbers₉))]) (va_A [(a_t, .inr (2, [.ref a_sort, .ref a_size, .ref a_numbers, .ref a_carried])), (a_numbers, .inl (cT 0, 64, .inl k_numbers))] sz)) 0 0 (va_A [(a_t, .inr (2, [.ref a_sort, .ref a_size, .ref a_numbers, .ref a_carried])), (a_numbers, .inl (cT 0, 64, .inl k_numbers))] sz) := by
  refine Met.ofW (cc := cX2_write) (maxL := 4) (ret := none) (by decide) rfl ?_
  intro p e s m args below meth c s₁ B hml hv
  obtain ⟨rfl, hsz, hP, hK, hN, hD0⟩ := hv
  have hx := B.exec
  have hb := B.bytes
  have hr := B.returns
  have hts := atoms_spec (ws := wsX2_write) B.pre
  have hown : s.vm.findClass RX2 = some m.cls := findClass_of_methodNamed B.named
  have hlocks := B.notSynchronized
  subst hsz
  have hD := hD0.self (sz := s.heap.size)
  clear hD0
  generalize hAe : va_A [(a_t, .inr (2, [.ref a_sort, .ref a_size, .ref a_numbers, .ref a_carried])), (a_numbers, .inl (cT 0, 64, .inl k_numbers))] s.heap.size = A at hD ⊢
  have hA : ∀ q : Nat, s.heap.size ≤ q → A q := fun q h => by rw [← hAe]; exact Or.inr h
  clear hAe
  have hl := lv_entry ([.ref a_t, .int v1, .int v2, .int v3]) (n := 4) (Nat.le_of_ble_eq_true rfl)
  rw [lg_entry_eq]
  generalize (lg_sl ([.ref a_t, .int v1, .int v2, .int v3]) ++ List.replicate (4 - (lg_sl ([.ref a_t, .int v1, .int v2, .int v3])).length) Slot.unset).toArray = ls at hl ⊢
  have hl : lv_has ls 4 [(0, .ref a_t), (1, .int v1), (2, .int v2), (3, .int v3)] := hl
  refine j_start (A := A) hP (fun H locs hP hS => ?_)
  unfold f_Lines_write at hf
  refine lv_aload_n hx hb dX2_write_0 rfl (lv_at hl 0 rfl) ?_
  refine va_get (D := D) (ci := 2) (v := .ref a_numbers) (C := RX2) (T := TX2) (N := 4) hx hb hts iw_wsX2_write_X2 hown hK hP 0 rfl rfl 2 (by decide) (hts (.fieldLink RX2 18 "BargeBasin$Lines" "numbers" "[I") (List.mem_of_getElem? (i := 1) (by decide +kernel))) (fun _ h9 => h9) rfl dX2_write_1 ?_
  refine lv_bipush (v := 8) hx hb dX2_write_4 (by decide) ?_
  refine lv_iload_n hx hb dX2_write_6 rfl (lv_at hl 1 rfl) ?_
  refine lv_imul hx hb dX2_write_7 ?_
  refine lv_iload_n hx hb dX2_write_8 rfl (lv_at hl 2 rfl) ?_
  refine lv_iadd hx hb dX2_write_9 ?_
  refine lv_iload_n hx hb dX2_write_10 rfl (lv_at hl 3 rfl) ?_
  replace hf := ob_grd hf
  obtain ⟨hi_1, hf⟩ := hf
  refine va_iast hx hb hK hP hD hS 1 0 rfl rfl hi_1 dX2_write_11 (fun H locs hP hD hS => ?_)
  replace hP : va_P D vwCl [(a_t, .inr (2, [.ref a_sort, .ref a_size, .ref a_numbers, .ref a_carried])), (a_numbers, .inl (cT 0, 64, .inl (upd k_numbers ((((8 : Int32)) * v1) + v2).toNatClampNeg v3)))] H := hP
  replace hD : va_D A [(a_t, .inr (2, [.ref a_sort, .ref a_size, .ref a_numbers, .ref a_carried])), (a_numbers, .inl (cT 0, 64, .inl (upd k_numbers ((((8 : Int32)) * v1) + v2).toNatClampNeg v3)))] := hD
  cases hf
  exact W.vret hx hb hr (fun t ht hW => ⟨⟨(), rfl, trivial, by rw [ht]; exact hP, va_K.moved hW.alike hK, hD⟩, hS.F ht⟩) hS.2.2 dX2_write_12
theorem iw_wsX2_lay_X2 : ∀ w ∈ wsX20, w ∈ wsX2_lay := fun _ h => List.mem_cons_of_mem _ (List.mem_append_right _ h)
abbrev rm_Lines_lay : Room := { frames := 1, cells := 0, slots := 0, locals := 23 }
set_option maxHeartbeats 4000000 in
set_option maxRecDepth 100000 in
theorem l_f_Lines_lay_L17 {p : Program} {l : Launch} {e : Env} {s : State} {m : MethodId} {args : Array Value} {below : List Frame} {meth : Method} {c : Code} {Q : State → Prop} {A : Nat → Prop} {D : va_G} {cT : Nat → ClassId} {a_t a_sort a_size a_numbers a_carried : Nat} {k_sort : Nat → Int32} {k_size : Nat → Int32} {v1 : Int32} (hx : p.tables.exec = Jvm.exec) (hb : c.code = cX2_lay) (hml : c.maxLocals = 5) (hown : s.vm.findClass RX2 = some m.cls) (hts : ∀ w ∈ wsX2_lay, w.before args s = true) (hK : va_K D vwCl (jT cT) s) (hN : jNw s) (hA : ∀ q : Nat, s.heap.size ≤ q → A q) : ∀ (n : Nat) (v4 : Int32) (k_numbers : Nat → Int32) (ex : (Nat → Int32)), f_Lines_lay_L17 v1 n v4 k_numbers = some ex → ∀ (H : Heap) (locs : List Loc), va_P D vwCl [(a_t, .inr (2, [.ref a_sort, .ref a_size, .ref a_numbers, .ref a_carried])), (a_sort, .inl (cT 0, 8, .inl k_sort)), (a_size, .inl (cT 0, 8, .inl k_size)), (a_numbers, .inl (cT 0, 64, .inl k_numbers))] H → va_D A [(a_t, .inr (2, [.ref a_sort, .ref a_size, .ref a_numbers, .ref a_carried])), (a_sort, .inl (cT 0, 8, .inl k_sort)), (a_size, .inl (cT 0, 8, .inl k_size)), (a_numbers, .inl (cT 0, 64, .inl k_numbers))] → va_S A s.heap H locs → ∀ (ls : Array Slot), lv_has ls 5 [(0, .ref a_t), (1, .int v1), (4, .int v4)] → (∀ (k_numbers_8 : Nat → Int32), ex = k_numbers_8 → ∀ (H : Heap) (locs : List Loc), va_P D vwCl [(a_t, .inr (2, [.ref a_sort, .ref a_size, .ref a_numbers, .ref a_carried])), (a_sort, .inl (cT 0, 8, .inl k_sort)), (a_size, .inl (cT 0, 8, .inl k_size)), (a_numbers, .inl (cT 0, 64, .inl k_numbers_8))] H → va_D A [(a_t, .inr (2, [.ref a_sort, .ref a_size, .ref a_numbers, .ref a_carried])), (a_sort, .inl (cT 0, 8, .inl k_sort)), (a_size, .inl (cT 0, 8, .inl k_size)), (a_numbers, .inl (cT 0, 64, .inl k_numbers_8))] → va_S A s.heap H locs → ∀ (ls : Array Slot), lv_has ls 5 [] → W p l e (headSpec wsX2_lay rm_Lines_lay).room s m args below meth c H locs 0 0 Q (F0 m 38 ls [])) → W p l e (headSpec wsX2_lay rm_Lines_lay).room s m args below meth c H locs 0 0 Q (F0 m 17 ls []) := by
  intro n
  induction n with
  | zero => intro v4 k_numbers ex hf; exact (ob_none hf).elim
  | succ n ih =>
    intro v4 k_numbers ex hf H locs hP hD hS ls hl K0
    rw [f_Lines_lay_L17] at hf
    refine lv_iload hx hb dX2_lay_17 (lv_at hl 2 rfl) ?_
    refine lv_bipush (v := 8) hx hb dX2_lay_19 (by decide) ?_
    refine lv_icmp_ge (tgt := 38) hx hb dX2_lay_21 (by decide) (fun c_3 => ?_) (fun c_3 => ?_)
    · replace hf := ob_pos c_3 hf
      cases hf
      exact K0 _ rfl _ _ hP hD hS ls (lv_sub hl [] rfl)
    · replace hf := ob_neg c_3 hf
      refine lv_aload_n hx hb dX2_lay_24 rfl (lv_at hl 0 rfl) ?_
      refine lv_iload_n hx hb dX2_lay_25 rfl (lv_at hl 1 rfl) ?_
      refine lv_iload hx hb dX2_lay_26 (lv_at hl 2 rfl) ?_
      refine lv_iconst (v := 0) hx hb dX2_lay_28 (by decide) ?_
      replace hf := ob_b hf
      obtain ⟨k_numbers_4, hc_5, hf⟩ := hf
      have hPc := hP.sub (ws' := [(a_t, .inr (2, [.ref a_sort, .ref a_size, .ref a_numbers, .ref a_carried])), (a_numbers, .inl (cT 0, 64, .inl k_numbers))]) [0, 3] rfl
      have hDc := hD.sub (ws' := [(a_t, .inr (2, [.ref a_sort, .ref a_size, .ref a_numbers, .ref a_carried])), (a_numbers, .inl (cT 0, 64, .inl k_numbers))]) [0, 3] (by decide) rfl
      have hFc := va_free (wc := [(a_t, .inr (2, [.ref a_sort, .ref a_size, .ref a_numbers, .ref a_carried])), (a_numbers, .inl (cT 0, 64, .inl k_numbers))]) hD hS hA [0, 3] rfl
      refine va_callv (va_runV (As := [.int v1, .int v4, .int ((0 : Int32))]) (rest := []) ⟨hx, hb, hml, hown, hts⟩ (c_f_Lines_write l D cT H.size a_t a_sort a_size a_numbers a_carried k_numbers v1 v4 ((0 : Int32)) _ hc_5) (cwV 3 hts gX2_lay_X2_write rfl rfl rfl (by decide +kernel) ⟨Nat.le_of_ble_eq_true rfl, Nat.le_of_ble_eq_true rfl⟩) ⟨fun a U g mk q => by obtain ⟨q0, q1, qP, qK, qN, qD⟩ := q; exact ⟨q0, q1, qP, va_K.moved (u := U) (U := U.calling g mk a) (Vm.Alike.refl U.vm) qK, jNw_same (u := U) (U := U.calling g mk a) rfl qN, qD⟩, va_recv hK hP (ci := 2) (q0 := 0) rfl rfl, fun U hU hW => ⟨rfl, by rw [hU], by rw [hU]; exact hPc, va_K.moved hW.alike hK, jNw_warm hW hN, hDc.weaken (fun _ _ _ _ => trivial)⟩⟩ rfl rfl hl.1 rfl (lv_room (Nat.le_of_ble_eq_true rfl)) dX2_lay_29 ⟨Nat.le_of_ble_eq_true rfl, Nat.le_of_ble_eq_true rfl⟩) hS (fun q _ h => hFc q h) hFc (fun u t H1 locs ht hvm er_6 hB hz1 hk1 hS => ?_)
      obtain ⟨hP1, hK1, hD1⟩ := hB
      rw [ht] at hP1
      have hPD := va_join (wr := [(a_sort, .inl (cT 0, 8, .inl k_sort)), (a_size, .inl (cT 0, 8, .inl k_size))]) (w1 := [(a_t, .inr (2, [.ref a_sort, .ref a_size, .ref a_numbers, .ref a_carried])), (a_numbers, .inl (cT 0, 64, .inl k_numbers_4))]) hP hD [0, 3] [1, 2] rfl rfl (by decide) (by decide) hk1 hFc hP1 hD1
      clear hP hD
      obtain ⟨hP, hD⟩ := hPD
      replace hP := hP.sub (ws' := [(a_t, .inr (2, [.ref a_sort, .ref a_size, .ref a_numbers, .ref a_carried])), (a_sort, .inl (cT 0, 8, .inl k_sort)), (a_size, .inl (cT 0, 8, .inl k_size)), (a_numbers, .inl (cT 0, 64, .inl k_numbers_4))]) [2, 0, 1, 3] rfl
      replace hD := hD.sub (ws' := [(a_t, .inr (2, [.ref a_sort, .ref a_size, .ref a_numbers, .ref a_carried])), (a_sort, .inl (cT 0, 8, .inl k_sort)), (a_size, .inl (cT 0, 8, .inl k_size)), (a_numbers, .inl (cT 0, 64, .inl k_numbers_4))]) [2, 0, 1, 3] (by decide) rfl
      clear hPc hDc hFc hP1 hK1 hD1 hk1 hz1
      generalize H1 = H at hP hS ⊢
      obtain ⟨v4_7, ev4_7⟩ : ∃ y : Int32, y = v4 + 1 := ⟨_, rfl⟩
      replace hf := ob_nm ev4_7 hf
      refine lv_iinc (v := v4_7) (lv' := [(4, .int v4_7), (0, .ref a_t), (1, .int v1)]) hx hb dX2_lay_32 hl (k := 2) rfl (by rw [ev4_7]; rfl) (by decide) rfl (fun ls hl => ?_)
      refine lv_goto (tgt := 17) hx hb dX2_lay_35 (by decide) ?_
      exact ih _ _ ex hf _ _ hP hD hS ls (lv_sub hl [1, 2, 0] rfl) K0
set_option maxHeartbeats 4000000 in
set_option maxRecDepth 100000 in
theorem c_f_Lines_lay (l : Launch) (D : va_G) (cT : Nat → ClassId) (sz : Nat) (a_t a_sort a_size a_numbers a_carried : Nat) (k_sort : Nat → Int32) (k_size : Nat → Int32) (k_numbers : Nat → Int32) (v1 : Int32) (v2 : Int32) (v3 : Int32) (k_sort₉ : Nat → Int32) (k_size₉ : Nat → Int32) (k_numbers₉ : Nat → Int32) (hf : f_Lines_lay v1 v2 v3 k_sort k_size k_numbers = some (k_sort₉, k_size₉, k_numbers₉)) : Met l yX2_lay wsX2_lay rm_Lines_lay (va_Pc [.ref a_t, .int v1, .int v2, .int v3] (fun U => U.heap.size = sz ∧ va_P D vwCl [(a_t, .inr (2, [.ref a_sort, .ref a_size, .ref a_numbers, .ref a_carried])), (a_sort, .inl (cT 0, 8, .inl k_sort)), (a_size, .inl (cT 0, 8, .inl k_size)), (a_numbers, .inl (cT 0, 64, .inl k_numbers))] U.heap ∧ va_K D vwCl (jT cT) U ∧ jNw U ∧ va_D (fun _ => True) [(a_t, .inr (2, [.ref a_sort, .ref a_size, .ref a_numbers, .ref a_carried])), (a_sort, .inl (cT 0, 8, .inl k_sort)), (a_size, .inl (cT 0, 8, .inl k_size)), (a_numbers, .inl (cT 0, 64, .inl k_numbers))])) (va_Qv (fun _ : Unit => True) (fun (_ : Unit) t => va_P D vwCl [(a_t, .inr (2, [.ref a_sort, .ref a_size, .ref a_numbers, .ref a_carried])), (a_sort, .inl (cT 0, 8, .inl k_sort₉)), (a_size, .inl (cT 0, 8, .inl k_size₉)), (a_numbers, .inl (cT 0, 64, .inl k_numbers₉))] t.heap ∧ va_K D vwCl (jT cT) t ∧ va_D (va_A [(a_t, .inr (2, [.ref a_sort, .ref a_size, .ref a_numbers, .ref a_carried])), (a_sort, .inl (cT 0, 8, .inl k_sort)), (a_size, .inl (cT 0, 8, .inl k_size)), (a_numbers, .inl (cT 0, 64, .inl k_numbers))] sz) [(a_t, .inr (2, [.ref a_sort, .ref a_size, .ref a_numbers, .ref a_carried])), (a_sort, .inl (cT 0, 8, .inl k_sort₉)), (a_size, .inl (cT 0, 8, .inl k_size₉)), (a_numbers, .inl (cT 0, 64, .inl k_numbers₉))]) (va_A [(a_t, .inr (2, [.ref a_sort, .ref a_size, .ref a_numbers, .ref a_carried])), (a_sort, .inl (cT 0, 8, .inl k_sort)), (a_size, .inl (cT 0, 8, .inl k_size)), (a_numbers, .inl (cT 0, 64, .inl k_numbers))] sz)) 0 0 (va_A [(a_t, .inr (2, [.ref a_sort, .ref a_size, .ref a_numbers, .ref a_carried])), (a_sort, .inl (cT 0, 8, .inl k_sort)), (a_size, .inl (cT 0, 8, .inl k_size)), (a_numbers, .inl (cT 0, 64, .inl k_numbers))] sz) := by
  refine Met.ofW (cc := cX2_lay) (maxL := 5) (ret := none) (by decide) rfl ?_
  intro p e s m args below meth c s₁ B hml hv
  obtain ⟨rfl, hsz, hP, hK, hN, hD0⟩ := hv
  have hx := B.exec
  have hb := B.bytes
  have hr := B.returns
  have hts := atoms_spec (ws := wsX2_lay) B.pre
  have hown : s.vm.findClass RX2 = some m.cls := findClass_of_methodNamed B.named
  have hlocks := B.notSynchronized
  subst hsz
  have hD := hD0.self (sz := s.heap.size)
  clear hD0
  generalize hAe : va_A [(a_t, .inr (2, [.ref a_sort, .ref a_size, .ref a_numbers, .ref a_carried])), (a_sort, .inl (cT 0, 8, .inl k_sort)), (a_size, .inl (cT 0, 8, .inl k_size)), (a_numbers, .inl (cT 0, 64, .inl k_numbers))] s.heap.size = A at hD ⊢
  have hA : ∀ q : Nat, s.heap.size ≤ q → A q := fun q h => by rw [← hAe]; exact Or.inr h
  clear hAe
  have hl := lv_entry ([.ref a_t, .int v1, .int v2, .int v3]) (n := 5) (Nat.le_of_ble_eq_true rfl)
  rw [lg_entry_eq]
  generalize (lg_sl ([.ref a_t, .int v1, .int v2, .int v3]) ++ List.replicate (5 - (lg_sl ([.ref a_t, .int v1, .int v2, .int v3])).length) Slot.unset).toArray = ls at hl ⊢
  have hl : lv_has ls 5 [(0, .ref a_t), (1, .int v1), (2, .int v2), (3, .int v3)] := hl
  refine j_start (A := A) hP (fun H locs hP hS => ?_)
  unfold f_Lines_lay at hf
  refine lv_aload_n hx hb dX2_lay_0 rfl (lv_at hl 0 rfl) ?_
  refine va_get (D := D) (ci := 2) (v := .ref a_sort) (C := RX2) (T := TX2) (N := 4) hx hb hts iw_wsX2_lay_X2 hown hK hP 0 rfl rfl 0 (by decide) (hts (.fieldLink RX2 9 "BargeBasin$Lines" "sort" "[I") (List.mem_of_getElem? (i := 1) (by decide +kernel))) (fun _ h9 => h9) rfl dX2_lay_1 ?_
  refine lv_iload_n hx hb dX2_lay_4 rfl (lv_at hl 1 rfl) ?_
  refine lv_iload_n hx hb dX2_lay_5 rfl (lv_at hl 2 rfl) ?_
  replace hf := ob_grd hf
  obtain ⟨hi_1, hf⟩ := hf
  refine va_iast hx hb hK hP hD hS 1 0 rfl rfl hi_1 dX2_lay_6 (fun H locs hP hD hS => ?_)
  replace hP : va_P D vwCl [(a_t, .inr (2, [.ref a_sort, .ref a_size, .ref a_numbers, .ref a_carried])), (a_sort, .inl (cT 0, 8, .inl (upd k_sort v1.toNatClampNeg v2))), (a_size, .inl (cT 0, 8, .inl k_size)), (a_numbers, .inl (cT 0, 64, .inl k_numbers))] H := hP
  replace hD : va_D A [(a_t, .inr (2, [.ref a_sort, .ref a_size, .ref a_numbers, .ref a_carried])), (a_sort, .inl (cT 0, 8, .inl (upd k_sort v1.toNatClampNeg v2))), (a_size, .inl (cT 0, 8, .inl k_size)), (a_numbers, .inl (cT 0, 64, .inl k_numbers))] := hD
  refine lv_aload_n hx hb dX2_lay_7 rfl (lv_at hl 0 rfl) ?_
  refine va_get (D := D) (ci := 2) (v := .ref a_size) (C := RX2) (T := TX2) (N := 4) hx hb hts iw_wsX2_lay_X2 hown hK hP 0 rfl rfl 1 (by decide) (hts (.fieldLink RX2 15 "BargeBasin$Lines" "size" "[I") (List.mem_of_getElem? (i := 2) (by decide +kernel))) (fun _ h9 => h9) rfl dX2_lay_8 ?_
  refine lv_iload_n hx hb dX2_lay_11 rfl (lv_at hl 1 rfl) ?_
  refine lv_iload_n hx hb dX2_lay_12 rfl (lv_at hl 3 rfl) ?_
  replace hf := ob_grd hf
  obtain ⟨hi_2, hf⟩ := hf
  refine va_iast hx hb hK hP hD hS 2 0 rfl rfl hi_2 dX2_lay_13 (fun H locs hP hD hS => ?_)
  replace hP : va_P D vwCl [(a_t, .inr (2, [.ref a_sort, .ref a_size, .ref a_numbers, .ref a_carried])), (a_sort, .inl (cT 0, 8, .inl (upd k_sort v1.toNatClampNeg v2))), (a_size, .inl (cT 0, 8, .inl (upd k_size v1.toNatClampNeg v3))), (a_numbers, .inl (cT 0, 64, .inl k_numbers))] H := hP
  replace hD : va_D A [(a_t, .inr (2, [.ref a_sort, .ref a_size, .ref a_numbers, .ref a_carried])), (a_sort, .inl (cT 0, 8, .inl (upd k_sort v1.toNatClampNeg v2))), (a_size, .inl (cT 0, 8, .inl (upd k_size v1.toNatClampNeg v3))), (a_numbers, .inl (cT 0, 64, .inl k_numbers))] := hD
  refine lv_iconst (v := 0) hx hb dX2_lay_14 (by decide) ?_
  refine lv_istore (lv' := [(4, .int ((0 : Int32))), (0, .ref a_t), (1, .int v1), (2, .int v2), (3, .int v3)]) hx hb dX2_lay_15 hl (by decide) rfl (fun ls hl => ?_)
  replace hf := ob_b hf
  obtain ⟨ex_9, hq_10, hf⟩ := hf
  refine l_f_Lines_lay_L17 hx hb hml hown hts hK hN hA jN _ _ ex_9 hq_10 _ _ hP hD hS ls (lv_sub hl [1, 2, 0] rfl) (fun k_numbers_11 ee_12 H locs hP hD hS ls hl => ?_)
  have ee_12 := ee_12.symm
  subst ee_12
  replace hf := ob_t3 hf
  obtain ⟨ee0, ee1, ee2⟩ := hf
  subst ee0
  subst ee1
  subst ee2
  exact W.vret hx hb hr (fun t ht hW => ⟨⟨(), rfl, trivial, by rw [ht]; exact hP, va_K.moved hW.alike hK, hD⟩, hS.F ht⟩) hS.2.2 dX2_lay_38
theorem iw_wsX2_number_X2 : ∀ w ∈ wsX20, w ∈ wsX2_number := fun _ h => List.mem_cons_of_mem _ (List.mem_append_right _ h)
abbrev rm_Lines_number : Room := { frames := 0, cells := 0, slots := 0, locals := 0 }
set_option maxHeartbeats 4000000 in
set_option maxRecDepth 100000 in
theorem c_f_Lines_number (l : Launch) (D : va_G) (cT : Nat → ClassId) (a_t a_sort a_size a_numbers a_carried : Nat) (k_numbers : Nat → Int32) (v1 : Int32) (v2 : Int32) (r0 : Int32) (hf : f_Lines_number v1 v2 k_numbers = some r0) : Met l yX2_number wsX2_number rm_Lines_number (va_Pc [.ref a_t, .int v1, .int v2] (fun U => va_P D vwCl [(a_t, .inr (2, [.ref a_sort, .ref a_size, .ref a_numbers, .ref a_carried])), (a_numbers, .inl (cT 0, 64, .inl k_numbers))] U.heap ∧ va_K D vwCl (jT cT) U ∧ jNw U)) (vp_Si (fun r => r = r0)) 0 0 (fun _ => False) := by
  refine Met.ofW (cc := cX2_number) (maxL := 3) (ret := (some .int)) (by decide) rfl ?_
  intro p e s m args below meth c s₁ B hml hv
  obtain ⟨rfl, hP, hK, hN⟩ := hv
  have hx := B.exec
  have hb := B.bytes
  have hr := B.returns
  have hts := atoms_spec (ws := wsX2_number) B.pre
  have hown : s.vm.findClass RX2 = some m.cls := findClass_of_methodNamed B.named
  have hlocks := B.notSynchronized
  have hl := lv_entry ([.ref a_t, .int v1, .int v2]) (n := 3) (Nat.le_of_ble_eq_true rfl)
  rw [lg_entry_eq]
  generalize (lg_sl ([.ref a_t, .int v1, .int v2]) ++ List.replicate (3 - (lg_sl ([.ref a_t, .int v1, .int v2])).length) Slot.unset).toArray = ls at hl ⊢
  have hl : lv_has ls 3 [(0, .ref a_t), (1, .int v1), (2, .int v2)] := hl
  unfold f_Lines_number at hf
  refine lv_aload_n hx hb dX2_number_0 rfl (lv_at hl 0 rfl) ?_
  refine va_get (D := D) (ci := 2) (v := .ref a_numbers) (C := RX2) (T := TX2) (N := 4) hx hb hts iw_wsX2_number_X2 hown hK hP 0 rfl rfl 2 (by decide) (hts (.fieldLink RX2 18 "BargeBasin$Lines" "numbers" "[I") (List.mem_of_getElem? (i := 1) (by decide +kernel))) (fun _ h9 => h9) rfl dX2_number_1 ?_
  refine lv_bipush (v := 8) hx hb dX2_number_4 (by decide) ?_
  refine lv_iload_n hx hb dX2_number_6 rfl (lv_at hl 1 rfl) ?_
  refine lv_imul hx hb dX2_number_7 ?_
  refine lv_iload_n hx hb dX2_number_8 rfl (lv_at hl 2 rfl) ?_
  refine lv_iadd hx hb dX2_number_9 ?_
  replace hf := ob_grd hf
  obtain ⟨hi_1, hf⟩ := hf
  refine va_iald hx hb hK hP 1 0 rfl rfl hi_1 dX2_number_10 ?_
  cases hf
  exact W.iret hx hb hr (fun t ht hW => ⟨_, rfl, rfl, ht⟩) (fun q h => by cases h) dX2_number_11
theorem iw_wsX2_cut_X2 : ∀ w ∈ wsX20, w ∈ wsX2_cut := fun _ h => List.mem_cons_of_mem _ (List.mem_append_right _ h)
abbrev rm_Lines_cut : Room := { frames := 0, cells := 0, slots := 0, locals := 0 }
set_option maxHeartbeats 4000000 in
set_option maxRecDepth 100000 in
theorem c_f_Lines_cut (l : Launch) (D : va_G) (cT : Nat → ClassId) (a_t a_sort a_size a_numbers a_carried : Nat) (k_sort : Nat → Int32) (v1 : Int32) (v2 : Int32) (r0 : Int32) (hf : f_Lines_cut v1 v2 k_sort = some r0) : Met l yX2_cut wsX2_cut rm_Lines_cut (va_Pc [.ref a_t, .int v1, .int v2] (fun U => va_P D vwCl [(a_t, .inr (2, [.ref a_sort, .ref a_size, .ref a_numbers, .ref a_carried])), (a_sort, .inl (cT 0, 8, .inl k_sort))] U.heap ∧ va_K D vwCl (jT cT) U ∧ jNw U)) (vp_Si (fun r => r = r0)) 0 0 (fun _ => False) := by
  refine Met.ofW (cc := cX2_cut) (maxL := 3) (ret := (some .int)) (by decide) rfl ?_
  intro p e s m args below meth c s₁ B hml hv
  obtain ⟨rfl, hP, hK, hN⟩ := hv
  have hx := B.exec
  have hb := B.bytes
  have hr := B.returns
  have hts := atoms_spec (ws := wsX2_cut) B.pre
  have hown : s.vm.findClass RX2 = some m.cls := findClass_of_methodNamed B.named
  have hlocks := B.notSynchronized
  have hl := lv_entry ([.ref a_t, .int v1, .int v2]) (n := 3) (Nat.le_of_ble_eq_true rfl)
  rw [lg_entry_eq]
  generalize (lg_sl ([.ref a_t, .int v1, .int v2]) ++ List.replicate (3 - (lg_sl ([.ref a_t, .int v1, .int v2])).length) Slot.unset).toArray = ls at hl ⊢
  have hl : lv_has ls 3 [(0, .ref a_t), (1, .int v1), (2, .int v2)] := hl
  unfold f_Lines_cut at hf
  refine lv_aload_n hx hb dX2_cut_0 rfl (lv_at hl 0 rfl) ?_
  refine va_get (D := D) (ci := 2) (v := .ref a_sort) (C := RX2) (T := TX2) (N := 4) hx hb hts iw_wsX2_cut_X2 hown hK hP 0 rfl rfl 0 (by decide) (hts (.fieldLink RX2 9 "BargeBasin$Lines" "sort" "[I") (List.mem_of_getElem? (i := 1) (by decide +kernel))) (fun _ h9 => h9) rfl dX2_cut_1 ?_
  refine lv_iload_n hx hb dX2_cut_4 rfl (lv_at hl 1 rfl) ?_
  replace hf := ob_grd hf
  obtain ⟨hi_1, hf⟩ := hf
  refine va_iald hx hb hK hP 1 0 rfl rfl hi_1 dX2_cut_5 ?_
  refine lv_topi (fun sw_2 esw_2 => ?_)
  replace hf := ob_nm esw_2 hf
  by_cases c_3 : sw_2 = (0 : Int32)
  · replace hf := ob_pos c_3 hf
    refine lv_lookup (off := 26) (tgt := 32) hx hb dX2_cut_6 (by decide) (by rw [c_3]; decide) (by decide) ?_
    refine lv_iload_n hx hb dX2_cut_32 rfl (lv_at hl 2 rfl) ?_
    refine lv_i2b hx hb dX2_cut_33 rfl ?_
    cases hf
    exact W.iret hx hb hr (fun t ht hW => ⟨_, rfl, rfl, ht⟩) (fun q h => by cases h) dX2_cut_34
  replace hf := ob_neg c_3 hf
  by_cases c_4 : sw_2 = (1 : Int32)
  · replace hf := ob_pos c_4 hf
    refine lv_lookup (off := 29) (tgt := 35) hx hb dX2_cut_6 (by decide) (by rw [c_4]; decide) (by decide) ?_
    refine lv_iload_n hx hb dX2_cut_35 rfl (lv_at hl 2 rfl) ?_
    refine lv_i2c hx hb dX2_cut_36 rfl ?_
    cases hf
    exact W.iret hx hb hr (fun t ht hW => ⟨_, rfl, rfl, ht⟩) (fun q h => by cases h) dX2_cut_37
  replace hf := ob_neg c_4 hf
  refine lv_lookup (off := 32) (tgt := 38) hx hb dX2_cut_6 (by decide) (by rw [lv_osw c_3 (by decide), lv_osw c_4 (by decide)]; rfl) (by decide) ?_
  refine lv_iload_n hx hb dX2_cut_38 rfl (lv_at hl 2 rfl) ?_
  refine lv_i2s hx hb dX2_cut_39 rfl ?_
  cases hf
  exact W.iret hx hb hr (fun t ht hW => ⟨_, rfl, rfl, ht⟩) (fun q h => by cases h) dX2_cut_40
theorem iw_wsX2_holds_X2 : ∀ w ∈ wsX20, w ∈ wsX2_holds := fun _ h => List.mem_cons_of_mem _ (List.mem_append_right _ h)
abbrev rm_Lines_holds : Room := { frames := 0, cells := 0, slots := 0, locals := 0 }
set_option maxHeartbeats 4000000 in
set_option maxRecDepth 100000 in
theorem c_f_Lines_holds (l : Launch) (D : va_G) (cT : Nat → ClassId) (a_t a_sort a_size a_numbers a_carried : Nat) (k_size : Nat → Int32) (v1 : Int32) (v2 : Int32) (v3 : Int32) (r0 : Int32) (hf : f_Lines_holds v1 v2 v3 k_size = some r0) : Met l yX2_holds wsX2_holds rm_Lines_holds (va_Pc [.ref a_t, .int v1, .int v2, .int v3] (fun U => va_P D vwCl [(a_t, .inr (2, [.ref a_sort, .ref a_size, .ref a_numbers, .ref a_carried])), (a_size, .inl (cT 0, 8, .inl k_size))] U.heap ∧ va_K D vwCl (jT cT) U ∧ jNw U)) (vp_Si (fun r => r = r0)) 0 0 (fun _ => False) := by
  refine Met.ofW (cc := cX2_holds) (maxL := 4) (ret := (some .boolean)) (by decide) rfl ?_
  intro p e s m args below meth c s₁ B hml hv
  obtain ⟨rfl, hP, hK, hN⟩ := hv
  have hx := B.exec
  have hb := B.bytes
  have hr := B.returns
  have hts := atoms_spec (ws := wsX2_holds) B.pre
  have hown : s.vm.findClass RX2 = some m.cls := findClass_of_methodNamed B.named
  have hlocks := B.notSynchronized
  have hl := lv_entry ([.ref a_t, .int v1, .int v2, .int v3]) (n := 4) (Nat.le_of_ble_eq_true rfl)
  rw [lg_entry_eq]
  generalize (lg_sl ([.ref a_t, .int v1, .int v2, .int v3]) ++ List.replicate (4 - (lg_sl ([.ref a_t, .int v1, .int v2, .int v3])).length) Slot.unset).toArray = ls at hl ⊢
  have hl : lv_has ls 4 [(0, .ref a_t), (1, .int v1), (2, .int v2), (3, .int v3)] := hl
  unfold f_Lines_holds at hf
  refine lv_iload_n hx hb dX2_holds_0 rfl (lv_at hl 2 rfl) ?_
  refine lv_if_lt (tgt := 30) hx hb dX2_holds_1 (by decide) (fun c_1 => ?_) (fun c_1 => ?_)
  · replace hf := ob_pos c_1 hf
    refine lv_iconst (v := 0) hx hb dX2_holds_30 (by decide) ?_
    cases hf
    exact W.zret hx hb hr (by decide +kernel) (fun t ht hW => ⟨_, rfl, rfl, ht⟩) (fun q h => by cases h) dX2_holds_31
  · replace hf := ob_neg c_1 hf
    refine lv_iload_n hx hb dX2_holds_4 rfl (lv_at hl 3 rfl) ?_
    refine lv_aload_n hx hb dX2_holds_5 rfl (lv_at hl 0 rfl) ?_
    refine va_get (D := D) (ci := 2) (v := .ref a_size) (C := RX2) (T := TX2) (N := 4) hx hb hts iw_wsX2_holds_X2 hown hK hP 0 rfl rfl 1 (by decide) (hts (.fieldLink RX2 15 "BargeBasin$Lines" "size" "[I") (List.mem_of_getElem? (i := 1) (by decide +kernel))) (fun _ h9 => h9) rfl dX2_holds_6 ?_
    refine lv_iload_n hx hb dX2_holds_9 rfl (lv_at hl 1 rfl) ?_
    replace hf := ob_grd hf
    obtain ⟨hi_2, hf⟩ := hf
    refine va_iald hx hb hK hP 1 0 rfl rfl hi_2 dX2_holds_10 ?_
    refine lv_icmp_gt (tgt := 30) hx hb dX2_holds_11 (by decide) (fun c_3 => ?_) (fun c_3 => ?_)
    · replace hf := ob_pos c_3 hf
      refine lv_iconst (v := 0) hx hb dX2_holds_30 (by decide) ?_
      cases hf
      exact W.zret hx hb hr (by decide +kernel) (fun t ht hW => ⟨_, rfl, rfl, ht⟩) (fun q h => by cases h) dX2_holds_31
    · replace hf := ob_neg c_3 hf
      refine lv_iload_n hx hb dX2_holds_14 rfl (lv_at hl 2 rfl) ?_
      refine lv_aload_n hx hb dX2_holds_15 rfl (lv_at hl 0 rfl) ?_
      refine va_get (D := D) (ci := 2) (v := .ref a_size) (C := RX2) (T := TX2) (N := 4) hx hb hts iw_wsX2_holds_X2 hown hK hP 0 rfl rfl 1 (by decide) (hts (.fieldLink RX2 15 "BargeBasin$Lines" "size" "[I") (List.mem_of_getElem? (i := 1) (by decide +kernel))) (fun _ h9 => h9) rfl dX2_holds_16 ?_
      refine lv_iload_n hx hb dX2_holds_19 rfl (lv_at hl 1 rfl) ?_
      replace hf := ob_grd hf
      obtain ⟨hi_4, hf⟩ := hf
      refine va_iald hx hb hK hP 1 0 rfl rfl hi_4 dX2_holds_20 ?_
      refine lv_iload_n hx hb dX2_holds_21 rfl (lv_at hl 3 rfl) ?_
      refine lv_isub hx hb dX2_holds_22 ?_
      refine lv_icmp_gt (tgt := 30) hx hb dX2_holds_23 (by decide) (fun c_5 => ?_) (fun c_5 => ?_)
      · replace hf := ob_pos c_5 hf
        refine lv_iconst (v := 0) hx hb dX2_holds_30 (by decide) ?_
        cases hf
        exact W.zret hx hb hr (by decide +kernel) (fun t ht hW => ⟨_, rfl, rfl, ht⟩) (fun q h => by cases h) dX2_holds_31
      · replace hf := ob_neg c_5 hf
        refine lv_iconst (v := 1) hx hb dX2_holds_26 (by decide) ?_
        refine lv_goto (tgt := 31) hx hb dX2_holds_27 (by decide) ?_
        cases hf
        exact W.zret hx hb hr (by decide +kernel) (fun t ht hW => ⟨_, rfl, rfl, ht⟩) (fun q h => by cases h) dX2_holds_31
theorem iw_wsX2_copy_X2 : ∀ w ∈ wsX20, w ∈ wsX2_copy := fun _ h => List.mem_cons_of_mem _ (List.mem_append_right _ h)
abbrev rm_Lines_copy : Room := { frames := 1, cells := 0, slots := 0, locals := 23 }
set_option maxHeartbeats 4000000 in
set_option maxRecDepth 100000 in
theorem l_f_Lines_copy_L3 {p : Program} {l : Launch} {e : Env} {s : State} {m : MethodId} {args : Array Value} {below : List Frame} {meth : Method} {c : Code} {Q : State → Prop} {A : Nat → Prop} {D : va_G} {cT : Nat → ClassId} {a_t a_sort a_size a_numbers a_carried : Nat} {k_numbers : Nat → Int32} {v1 : Int32} {v2 : Int32} {v3 : Int32} {v4 : Int32} {v5 : Int32} (hx : p.tables.exec = Jvm.exec) (hb : c.code = cX2_copy) (hml : c.maxLocals = 7) (hown : s.vm.findClass RX2 = some m.cls) (hts : ∀ w ∈ wsX2_copy, w.before args s = true) (hK : va_K D vwCl (jT cT) s) (hN : jNw s) (hA : ∀ q : Nat, s.heap.size ≤ q → A q) : ∀ (n : Nat) (v6 : Int32) (k_carried : Nat → Int32) (ex : (Nat → Int32)), f_Lines_copy_L3 v1 v2 v3 v4 v5 k_numbers n v6 k_carried = some ex → ∀ (H : Heap) (locs : List Loc), va_P D vwCl [(a_t, .inr (2, [.ref a_sort, .ref a_size, .ref a_numbers, .ref a_carried])), (a_numbers, .inl (cT 0, 64, .inl k_numbers)), (a_carried, .inl (cT 0, 8, .inl k_carried))] H → va_D A [(a_t, .inr (2, [.ref a_sort, .ref a_size, .ref a_numbers, .ref a_carried])), (a_numbers, .inl (cT 0, 64, .inl k_numbers)), (a_carried, .inl (cT 0, 8, .inl k_carried))] → va_S A s.heap H locs → ∀ (ls : Array Slot), lv_has ls 7 [(0, .ref a_t), (1, .int v1), (2, .int v2), (3, .int v3), (4, .int v4), (5, .int v5), (6, .int v6)] → (∀ (k_carried_7 : Nat → Int32), ex = k_carried_7 → ∀ (H : Heap) (locs : List Loc), va_P D vwCl [(a_t, .inr (2, [.ref a_sort, .ref a_size, .ref a_numbers, .ref a_carried])), (a_numbers, .inl (cT 0, 64, .inl k_numbers)), (a_carried, .inl (cT 0, 8, .inl k_carried_7))] H → va_D A [(a_t, .inr (2, [.ref a_sort, .ref a_size, .ref a_numbers, .ref a_carried])), (a_numbers, .inl (cT 0, 64, .inl k_numbers)), (a_carried, .inl (cT 0, 8, .inl k_carried_7))] → va_S A s.heap H locs → ∀ (ls : Array Slot), lv_has ls 7 [(0, .ref a_t), (3, .int v3), (4, .int v4), (5, .int v5)] → W p l e (headSpec wsX2_copy rm_Lines_copy).room s m args below meth c H locs 0 0 Q (F0 m 32 ls [])) → W p l e (headSpec wsX2_copy rm_Lines_copy).room s m args below meth c H locs 0 0 Q (F0 m 3 ls []) := by
  intro n
  induction n with
  | zero => intro v6 k_carried ex hf; exact (ob_none hf).elim
  | succ n ih =>
    intro v6 k_carried ex hf H locs hP hD hS ls hl K0
    rw [f_Lines_copy_L3] at hf
    refine lv_iload hx hb dX2_copy_3 (lv_at hl 6 rfl) ?_
    refine lv_iload hx hb dX2_copy_5 (lv_at hl 5 rfl) ?_
    refine lv_icmp_ge (tgt := 32) hx hb dX2_copy_7 (by decide) (fun c_1 => ?_) (fun c_1 => ?_)
    · replace hf := ob_pos c_1 hf
      cases hf
      exact K0 _ rfl _ _ hP hD hS ls (lv_sub hl [0, 3, 4, 5] rfl)
    · replace hf := ob_neg c_1 hf
      refine lv_aload_n hx hb dX2_copy_10 rfl (lv_at hl 0 rfl) ?_
      refine va_get (D := D) (ci := 2) (v := .ref a_carried) (C := RX2) (T := TX2) (N := 4) hx hb hts iw_wsX2_copy_X2 hown hK hP 0 rfl rfl 3 (by decide) (hts (.fieldLink RX2 21 "BargeBasin$Lines" "carried" "[I") (List.mem_of_getElem? (i := 1) (by decide +kernel))) (fun _ h9 => h9) rfl dX2_copy_11 ?_
      refine lv_iload hx hb dX2_copy_14 (lv_at hl 6 rfl) ?_
      refine lv_aload_n hx hb dX2_copy_16 rfl (lv_at hl 0 rfl) ?_
      refine lv_iload_n hx hb dX2_copy_17 rfl (lv_at hl 1 rfl) ?_
      refine lv_iload_n hx hb dX2_copy_18 rfl (lv_at hl 2 rfl) ?_
      refine lv_iload hx hb dX2_copy_19 (lv_at hl 6 rfl) ?_
      refine lv_iadd hx hb dX2_copy_21 ?_
      replace hf := ob_b hf
      obtain ⟨zr_2, hc_3, hf⟩ := hf
      refine vp_callSi (W.runV (As := [.int v1, .int (v2 + v6)]) (rest := [.int v6, .ref a_carried]) ⟨hx, hb, hml, hown, hts⟩ (c_f_Lines_number l D cT a_t a_sort a_size a_numbers a_carried k_numbers v1 (v2 + v6) _ hc_3) (cwV 2 hts gX2_copy_X2_number rfl rfl rfl (by decide +kernel) ⟨Nat.le_of_ble_eq_true rfl, Nat.le_of_ble_eq_true rfl⟩) ⟨fun a U g mk q => by obtain ⟨q0, qP, qK, qN⟩ := q; exact ⟨q0, qP, va_K.moved (u := U) (U := U.calling g mk a) (Vm.Alike.refl U.vm) qK, jNw_same (u := U) (U := U.calling g mk a) rfl qN⟩, va_recv hK hP (ci := 2) (q0 := 0) rfl rfl, fun U hU hW => ⟨rfl, by rw [hU]; exact hP.sub [0, 1] rfl, va_K.moved hW.alike hK, jNw_warm hW hN⟩⟩ rfl rfl hl.1 rfl (lv_room (Nat.le_of_ble_eq_true rfl)) dX2_copy_22 ⟨Nat.le_of_ble_eq_true rfl, Nat.le_of_ble_eq_true rfl⟩) (fun r_2 er_4 => ?_)
      subst er_4
      replace hf := ob_grd hf
      obtain ⟨hi_5, hf⟩ := hf
      refine va_iast hx hb hK hP hD hS 2 0 rfl rfl hi_5 dX2_copy_25 (fun H locs hP hD hS => ?_)
      replace hP : va_P D vwCl [(a_t, .inr (2, [.ref a_sort, .ref a_size, .ref a_numbers, .ref a_carried])), (a_numbers, .inl (cT 0, 64, .inl k_numbers)), (a_carried, .inl (cT 0, 8, .inl (upd k_carried v6.toNatClampNeg r_2)))] H := hP
      replace hD : va_D A [(a_t, .inr (2, [.ref a_sort, .ref a_size, .ref a_numbers, .ref a_carried])), (a_numbers, .inl (cT 0, 64, .inl k_numbers)), (a_carried, .inl (cT 0, 8, .inl (upd k_carried v6.toNatClampNeg r_2)))] := hD
      obtain ⟨v6_6, ev6_6⟩ : ∃ y : Int32, y = v6 + 1 := ⟨_, rfl⟩
      replace hf := ob_nm ev6_6 hf
      refine lv_iinc (v := v6_6) (lv' := [(6, .int v6_6), (0, .ref a_t), (1, .int v1), (2, .int v2), (3, .int v3), (4, .int v4), (5, .int v5)]) hx hb dX2_copy_26 hl (k := 6) rfl (by rw [ev6_6]; rfl) (by decide) rfl (fun ls hl => ?_)
      refine lv_goto (tgt := 3) hx hb dX2_copy_29 (by decide) ?_
      exact ih _ _ ex hf _ _ hP hD hS ls (lv_sub hl [1, 2, 3, 4, 5, 6, 0] rfl) K0
set_option maxHeartbeats 4000000 in
set_option maxRecDepth 100000 in
theorem l_f_Lines_copy_L35 {p : Program} {l : Launch} {e : Env} {s : State} {m : MethodId} {args : Array Value} {below : List Frame} {meth : Method} {c : Code} {Q : State → Prop} {A : Nat → Prop} {D : va_G} {cT : Nat → ClassId} {a_t a_sort a_size a_numbers a_carried : Nat} {k_carried : Nat → Int32} {v3 : Int32} {v4 : Int32} {v5 : Int32} (hx : p.tables.exec = Jvm.exec) (hb : c.code = cX2_copy) (hml : c.maxLocals = 7) (hown : s.vm.findClass RX2 = some m.cls) (hts : ∀ w ∈ wsX2_copy, w.before args s = true) (hK : va_K D vwCl (jT cT) s) (hN : jNw s) (hA : ∀ q : Nat, s.heap.size ≤ q → A q) : ∀ (n : Nat) (v6 : Int32) (k_numbers : Nat → Int32) (ex : (Nat → Int32)), f_Lines_copy_L35 v3 v4 v5 k_carried n v6 k_numbers = some ex → ∀ (H : Heap) (locs : List Loc), va_P D vwCl [(a_t, .inr (2, [.ref a_sort, .ref a_size, .ref a_numbers, .ref a_carried])), (a_numbers, .inl (cT 0, 64, .inl k_numbers)), (a_carried, .inl (cT 0, 8, .inl k_carried))] H → va_D A [(a_t, .inr (2, [.ref a_sort, .ref a_size, .ref a_numbers, .ref a_carried])), (a_numbers, .inl (cT 0, 64, .inl k_numbers)), (a_carried, .inl (cT 0, 8, .inl k_carried))] → va_S A s.heap H locs → ∀ (ls : Array Slot), lv_has ls 7 [(0, .ref a_t), (3, .int v3), (4, .int v4), (5, .int v5), (6, .int v6)] → (∀ (k_numbers_17 : Nat → Int32), ex = k_numbers_17 → ∀ (H : Heap) (locs : List Loc), va_P D vwCl [(a_t, .inr (2, [.ref a_sort, .ref a_size, .ref a_numbers, .ref a_carried])), (a_numbers, .inl (cT 0, 64, .inl k_numbers_17)), (a_carried, .inl (cT 0, 8, .inl k_carried))] H → va_D A [(a_t, .inr (2, [.ref a_sort, .ref a_size, .ref a_numbers, .ref a_carried])), (a_numbers, .inl (cT 0, 64, .inl k_numbers_17)), (a_carried, .inl (cT 0, 8, .inl k_carried))] → va_S A s.heap H locs → ∀ (ls : Array Slot), lv_has ls 7 [] → W p l e (headSpec wsX2_copy rm_Lines_copy).room s m args below meth c H locs 0 0 Q (F0 m 65 ls [])) → W p l e (headSpec wsX2_copy rm_Lines_copy).room s m args below meth c H locs 0 0 Q (F0 m 35 ls []) := by
  intro n
  induction n with
  | zero => intro v6 k_numbers ex hf; exact (ob_none hf).elim
  | succ n ih =>
    intro v6 k_numbers ex hf H locs hP hD hS ls hl K0
    rw [f_Lines_copy_L35] at hf
    refine lv_iload hx hb dX2_copy_35 (lv_at hl 4 rfl) ?_
    refine lv_iload hx hb dX2_copy_37 (lv_at hl 3 rfl) ?_
    refine lv_icmp_ge (tgt := 65) hx hb dX2_copy_39 (by decide) (fun c_11 => ?_) (fun c_11 => ?_)
    · replace hf := ob_pos c_11 hf
      cases hf
      exact K0 _ rfl _ _ hP hD hS ls (lv_sub hl [] rfl)
    · replace hf := ob_neg c_11 hf
      refine lv_aload_n hx hb dX2_copy_42 rfl (lv_at hl 0 rfl) ?_
      refine lv_iload_n hx hb dX2_copy_43 rfl (lv_at hl 1 rfl) ?_
      refine lv_iload hx hb dX2_copy_44 (lv_at hl 2 rfl) ?_
      refine lv_iload hx hb dX2_copy_46 (lv_at hl 4 rfl) ?_
      refine lv_iadd hx hb dX2_copy_48 ?_
      refine lv_aload_n hx hb dX2_copy_49 rfl (lv_at hl 0 rfl) ?_
      refine va_get (D := D) (ci := 2) (v := .ref a_carried) (C := RX2) (T := TX2) (N := 4) hx hb hts iw_wsX2_copy_X2 hown hK hP 0 rfl rfl 3 (by decide) (hts (.fieldLink RX2 21 "BargeBasin$Lines" "carried" "[I") (List.mem_of_getElem? (i := 1) (by decide +kernel))) (fun _ h9 => h9) rfl dX2_copy_50 ?_
      refine lv_iload hx hb dX2_copy_53 (lv_at hl 4 rfl) ?_
      replace hf := ob_grd hf
      obtain ⟨hi_12, hf⟩ := hf
      refine va_iald hx hb hK hP 2 0 rfl rfl hi_12 dX2_copy_55 ?_
      replace hf := ob_b hf
      obtain ⟨k_numbers_13, hc_14, hf⟩ := hf
      have hPc := hP.sub (ws' := [(a_t, .inr (2, [.ref a_sort, .ref a_size, .ref a_numbers, .ref a_carried])), (a_numbers, .inl (cT 0, 64, .inl k_numbers))]) [0, 1] rfl
      have hDc := hD.sub (ws' := [(a_t, .inr (2, [.ref a_sort, .ref a_size, .ref a_numbers, .ref a_carried])), (a_numbers, .inl (cT 0, 64, .inl k_numbers))]) [0, 1] (by decide) rfl
      have hFc := va_free (wc := [(a_t, .inr (2, [.ref a_sort, .ref a_size, .ref a_numbers, .ref a_carried])), (a_numbers, .inl (cT 0, 64, .inl k_numbers))]) hD hS hA [0, 1] rfl
      refine va_callv (va_runV (As := [.int v3, .int (v4 + v6), .int (k_carried v6.toNatClampNeg)]) (rest := []) ⟨hx, hb, hml, hown, hts⟩ (c_f_Lines_write l D cT H.size a_t a_sort a_size a_numbers a_carried k_numbers v3 (v4 + v6) (k_carried v6.toNatClampNeg) _ hc_14) (cwV 3 hts gX2_copy_X2_write rfl rfl rfl (by decide +kernel) ⟨Nat.le_of_ble_eq_true rfl, Nat.le_of_ble_eq_true rfl⟩) ⟨fun a U g mk q => by obtain ⟨q0, q1, qP, qK, qN, qD⟩ := q; exact ⟨q0, q1, qP, va_K.moved (u := U) (U := U.calling g mk a) (Vm.Alike.refl U.vm) qK, jNw_same (u := U) (U := U.calling g mk a) rfl qN, qD⟩, va_recv hK hP (ci := 2) (q0 := 0) rfl rfl, fun U hU hW => ⟨rfl, by rw [hU], by rw [hU]; exact hPc, va_K.moved hW.alike hK, jNw_warm hW hN, hDc.weaken (fun _ _ _ _ => trivial)⟩⟩ rfl rfl hl.1 rfl (lv_room (Nat.le_of_ble_eq_true rfl)) dX2_copy_56 ⟨Nat.le_of_ble_eq_true rfl, Nat.le_of_ble_eq_true rfl⟩) hS (fun q _ h => hFc q h) hFc (fun u t H1 locs ht hvm er_15 hB hz1 hk1 hS => ?_)
      obtain ⟨hP1, hK1, hD1⟩ := hB
      rw [ht] at hP1
      have hPD := va_join (wr := [(a_carried, .inl (cT 0, 8, .inl k_carried))]) (w1 := [(a_t, .inr (2, [.ref a_sort, .ref a_size, .ref a_numbers, .ref a_carried])), (a_numbers, .inl (cT 0, 64, .inl k_numbers_13))]) hP hD [0, 1] [2] rfl rfl (by decide) (by decide) hk1 hFc hP1 hD1
      clear hP hD
      obtain ⟨hP, hD⟩ := hPD
      replace hP := hP.sub (ws' := [(a_t, .inr (2, [.ref a_sort, .ref a_size, .ref a_numbers, .ref a_carried])), (a_numbers, .inl (cT 0, 64, .inl k_numbers_13)), (a_carried, .inl (cT 0, 8, .inl k_carried))]) [1, 2, 0] rfl
      replace hD := hD.sub (ws' := [(a_t, .inr (2, [.ref a_sort, .ref a_size, .ref a_numbers, .ref a_carried])), (a_numbers, .inl (cT 0, 64, .inl k_numbers_13)), (a_carried, .inl (cT 0, 8, .inl k_carried))]) [1, 2, 0] (by decide) rfl
      clear hPc hDc hFc hP1 hK1 hD1 hk1 hz1
      generalize H1 = H at hP hS ⊢
      obtain ⟨v6_16, ev6_16⟩ : ∃ y : Int32, y = v6 + 1 := ⟨_, rfl⟩
      replace hf := ob_nm ev6_16 hf
      refine lv_iinc (v := v6_16) (lv' := [(6, .int v6_16), (0, .ref a_t), (3, .int v3), (4, .int v4), (5, .int v5)]) hx hb dX2_copy_59 hl (k := 4) rfl (by rw [ev6_16]; rfl) (by decide) rfl (fun ls hl => ?_)
      refine lv_goto (tgt := 35) hx hb dX2_copy_62 (by decide) ?_
      exact ih _ _ ex hf _ _ hP hD hS ls (lv_sub hl [1, 2, 3, 4, 0] rfl) K0
set_option maxHeartbeats 4000000 in
set_option maxRecDepth 100000 in
theorem c_f_Lines_copy (l : Launch) (D : va_G) (cT : Nat → ClassId) (sz : Nat) (a_t a_sort a_size a_numbers a_carried : Nat) (k_numbers : Nat → Int32) (k_carried : Nat → Int32) (v1 : Int32) (v2 : Int32) (v3 : Int32) (v4 : Int32) (v5 : Int32) (k_numbers₉ : Nat → Int32) (k_carried₉ : Nat → Int32) (hf : f_Lines_copy v1 v2 v3 v4 v5 k_numbers k_carried = some (k_numbers₉, k_carried₉)) : Met l yX2_copy wsX2_copy rm_Lines_copy (va_Pc [.ref a_t, .int v1, .int v2, .int v3, .int v4, .int v5] (fun U => U.heap.size = sz ∧ va_P D vwCl [(a_t, .inr (2, [.ref a_sort, .ref a_size, .ref a_numbers, .ref a_carried])), (a_numbers, .inl (cT 0, 64, .inl k_numbers)), (a_carried, .inl (cT 0, 8, .inl k_carried))] U.heap ∧ va_K D vwCl (jT cT) U ∧ jNw U ∧ va_D (fun _ => True) [(a_t, .inr (2, [.ref a_sort, .ref a_size, .ref a_numbers, .ref a_carried])), (a_numbers, .inl (cT 0, 64, .inl k_numbers)), (a_carried, .inl (cT 0, 8, .inl k_carried))])) (va_Qv (fun _ : Unit => True) (fun (_ : Unit) t => va_P D vwCl [(a_t, .inr (2, [.ref a_sort, .ref a_size, .ref a_numbers, .ref a_carried])), (a_numbers, .inl (cT 0, 64, .inl k_numbers₉)), (a_carried, .inl (cT 0, 8, .inl k_carried₉))] t.heap ∧ va_K D vwCl (jT cT) t ∧ va_D (va_A [(a_t, .inr (2, [.ref a_sort, .ref a_size, .ref a_numbers, .ref a_carried])), (a_numbers, .inl (cT 0, 64, .inl k_numbers)), (a_carried, .inl (cT 0, 8, .inl k_carried))] sz) [(a_t, .inr (2, [.ref a_sort, .ref a_size, .ref a_numbers, .ref a_carried])), (a_numbers, .inl (cT 0, 64, .inl k_numbers₉)), (a_carried, .inl (cT 0, 8, .inl k_carried₉))]) (va_A [(a_t, .inr (2, [.ref a_sort, .ref a_size, .ref a_numbers, .ref a_carried])), (a_numbers, .inl (cT 0, 64, .inl k_numbers)), (a_carried, .inl (cT 0, 8, .inl k_carried))] sz)) 0 0 (va_A [(a_t, .inr (2, [.ref a_sort, .ref a_size, .ref a_numbers, .ref a_carried])), (a_numbers, .inl (cT 0, 64, .inl k_numbers)), (a_carried, .inl (cT 0, 8, .inl k_carried))] sz) := by
  refine Met.ofW (cc := cX2_copy) (maxL := 7) (ret := none) (by decide) rfl ?_
  intro p e s m args below meth c s₁ B hml hv
  obtain ⟨rfl, hsz, hP, hK, hN, hD0⟩ := hv
  have hx := B.exec
  have hb := B.bytes
  have hr := B.returns
  have hts := atoms_spec (ws := wsX2_copy) B.pre
  have hown : s.vm.findClass RX2 = some m.cls := findClass_of_methodNamed B.named
  have hlocks := B.notSynchronized
  subst hsz
  have hD := hD0.self (sz := s.heap.size)
  clear hD0
  generalize hAe : va_A [(a_t, .inr (2, [.ref a_sort, .ref a_size, .ref a_numbers, .ref a_carried])), (a_numbers, .inl (cT 0, 64, .inl k_numbers)), (a_carried, .inl (cT 0, 8, .inl k_carried))] s.heap.size = A at hD ⊢
  have hA : ∀ q : Nat, s.heap.size ≤ q → A q := fun q h => by rw [← hAe]; exact Or.inr h
  clear hAe
  have hl := lv_entry ([.ref a_t, .int v1, .int v2, .int v3, .int v4, .int v5]) (n := 7) (Nat.le_of_ble_eq_true rfl)
  rw [lg_entry_eq]
  generalize (lg_sl ([.ref a_t, .int v1, .int v2, .int v3, .int v4, .int v5]) ++ List.replicate (7 - (lg_sl ([.ref a_t, .int v1, .int v2, .int v3, .int v4, .int v5])).length) Slot.unset).toArray = ls at hl ⊢
  have hl : lv_has ls 7 [(0, .ref a_t), (1, .int v1), (2, .int v2), (3, .int v3), (4, .int v4), (5, .int v5)] := hl
  refine j_start (A := A) hP (fun H locs hP hS => ?_)
  unfold f_Lines_copy at hf
  refine lv_iconst (v := 0) hx hb dX2_copy_0 (by decide) ?_
  refine lv_istore (lv' := [(6, .int ((0 : Int32))), (0, .ref a_t), (1, .int v1), (2, .int v2), (3, .int v3), (4, .int v4), (5, .int v5)]) hx hb dX2_copy_1 hl (by decide) rfl (fun ls hl => ?_)
  replace hf := ob_b hf
  obtain ⟨ex_8, hq_9, hf⟩ := hf
  refine l_f_Lines_copy_L3 hx hb hml hown hts hK hN hA jN _ _ ex_8 hq_9 _ _ hP hD hS ls (lv_sub hl [1, 2, 3, 4, 5, 6, 0] rfl) (fun k_carried_10 ee_22 H locs hP hD hS ls hl => ?_)
  have ee_22 := ee_22.symm
  subst ee_22
  refine lv_iconst (v := 0) hx hb dX2_copy_32 (by decide) ?_
  refine lv_istore (lv' := [(6, .int ((0 : Int32))), (0, .ref a_t), (3, .int v3), (4, .int v4), (5, .int v5)]) hx hb dX2_copy_33 hl (by decide) rfl (fun ls hl => ?_)
  replace hf := ob_b hf
  obtain ⟨ex_18, hq_19, hf⟩ := hf
  refine l_f_Lines_copy_L35 hx hb hml hown hts hK hN hA jN _ _ ex_18 hq_19 _ _ hP hD hS ls (lv_sub hl [1, 2, 3, 4, 0] rfl) (fun k_numbers_20 ee_21 H locs hP hD hS ls hl => ?_)
  have ee_21 := ee_21.symm
  subst ee_21
  replace hf := ob_t2 hf
  obtain ⟨ee0, ee1⟩ := hf
  subst ee0
  subst ee1
  exact W.vret hx hb hr (fun t ht hW => ⟨⟨(), rfl, trivial, by rw [ht]; exact hP, va_K.moved hW.alike hK, hD⟩, hS.F ht⟩) hS.2.2 dX2_copy_65
theorem iw_wsX2_wallBits_X2 : ∀ w ∈ wsX20, w ∈ wsX2_wallBits := fun _ h => List.mem_cons_of_mem _ (List.mem_append_right _ h)
abbrev rm_Lines_wallBits : Room := { frames := 1, cells := 0, slots := 0, locals := 22 }
set_option maxHeartbeats 4000000 in
set_option maxRecDepth 100000 in
theorem l_f_Lines_wallBits_L15 {p : Program} {l : Launch} {e : Env} {s : State} {m : MethodId} {args : Array Value} {below : List Frame} {meth : Method} {c : Code} {Q : State → Prop} {D : va_G} {cT : Nat → ClassId} {a_t a_sort a_size a_numbers a_carried : Nat} {k_sort : Nat → Int32} {k_size : Nat → Int32} {k_numbers : Nat → Int32} {v1 : Int32} {v2 : Int32} (hx : p.tables.exec = Jvm.exec) (hb : c.code = cX2_wallBits) (hml : c.maxLocals = 5) (hown : s.vm.findClass RX2 = some m.cls) (hts : ∀ w ∈ wsX2_wallBits, w.before args s = true) (hK : va_K D vwCl (jT cT) s) (hN : jNw s) (hP : va_P D vwCl [(a_t, .inr (2, [.ref a_sort, .ref a_size, .ref a_numbers, .ref a_carried])), (a_sort, .inl (cT 0, 8, .inl k_sort)), (a_size, .inl (cT 0, 8, .inl k_size)), (a_numbers, .inl (cT 0, 64, .inl k_numbers))] s.heap) : ∀ (n : Nat) (v3 : Int32) (v4 : Int32) (ex : Int32), f_Lines_wallBits_L15 v1 v2 k_size k_numbers n v3 v4 = some ex → ∀ (ls : Array Slot), lv_has ls 5 [(0, .ref a_t), (1, .int v1), (2, .int v2), (3, .int v3), (4, .int v4)] → (∀ (v3_17 : Int32), ex = v3_17 → ∀ (ls : Array Slot), lv_has ls 5 [(3, .int v3_17)] → W p l e (headSpec wsX2_wallBits rm_Lines_wallBits).room s m args below meth c s.heap [] 0 0 Q (F0 m 55 ls [])) → W p l e (headSpec wsX2_wallBits rm_Lines_wallBits).room s m args below meth c s.heap [] 0 0 Q (F0 m 15 ls []) := by
  intro n
  induction n with
  | zero => intro v3 v4 ex hf; exact (ob_none hf).elim
  | succ n ih =>
    intro v3 v4 ex hf ls hl K0
    rw [f_Lines_wallBits_L15] at hf
    refine lv_iload hx hb dX2_wallBits_15 (lv_at hl 4 rfl) ?_
    refine lv_iload_n hx hb dX2_wallBits_17 rfl (lv_at hl 2 rfl) ?_
    refine lv_icmp_ge (tgt := 55) hx hb dX2_wallBits_18 (by decide) (fun c_5 => ?_) (fun c_5 => ?_)
    · replace hf := ob_pos c_5 hf
      cases hf
      exact K0 _ rfl ls (lv_sub hl [3] rfl)
    · replace hf := ob_neg c_5 hf
      refine lv_iload hx hb dX2_wallBits_21 (lv_at hl 4 rfl) ?_
      refine lv_aload_n hx hb dX2_wallBits_23 rfl (lv_at hl 0 rfl) ?_
      refine va_get (D := D) (ci := 2) (v := .ref a_size) (C := RX2) (T := TX2) (N := 4) hx hb hts iw_wsX2_wallBits_X2 hown hK hP 0 rfl rfl 1 (by decide) (hts (.fieldLink RX2 15 "BargeBasin$Lines" "size" "[I") (List.mem_of_getElem? (i := 1) (by decide +kernel))) (fun _ h9 => h9) rfl dX2_wallBits_24 ?_
      refine lv_iload_n hx hb dX2_wallBits_27 rfl (lv_at hl 1 rfl) ?_
      replace hf := ob_grd hf
      obtain ⟨hi_6, hf⟩ := hf
      refine va_iald hx hb hK hP 2 0 rfl rfl hi_6 dX2_wallBits_28 ?_
      refine lv_icmp_ge (tgt := 42) hx hb dX2_wallBits_29 (by decide) (fun c_7 => ?_) (fun c_7 => ?_)
      · replace hf := ob_pos c_7 hf
        refine lv_iload_n hx hb dX2_wallBits_42 rfl (lv_at hl 3 rfl) ?_
        refine lv_iconst (v := 1) hx hb dX2_wallBits_43 (by decide) ?_
        refine lv_iload hx hb dX2_wallBits_44 (lv_at hl 4 rfl) ?_
        refine lv_ishl hx hb dX2_wallBits_46 ?_
        refine lv_ior hx hb dX2_wallBits_47 ?_
        refine lv_topi (fun v3_8 ev3_8 => ?_)
        replace hf := ob_nm ev3_8 hf
        refine lv_istore_n (lv' := [(3, .int v3_8), (0, .ref a_t), (1, .int v1), (2, .int v2), (4, .int v4)]) hx hb dX2_wallBits_48 rfl hl (by decide) rfl (fun ls hl => ?_)
        obtain ⟨v4_9, ev4_9⟩ : ∃ y : Int32, y = v4 + 1 := ⟨_, rfl⟩
        replace hf := ob_nm ev4_9 hf
        refine lv_iinc (v := v4_9) (lv' := [(4, .int v4_9), (3, .int v3_8), (0, .ref a_t), (1, .int v1), (2, .int v2)]) hx hb dX2_wallBits_49 hl (k := 4) rfl (by rw [ev4_9]; rfl) (by decide) rfl (fun ls hl => ?_)
        refine lv_goto (tgt := 15) hx hb dX2_wallBits_52 (by decide) ?_
        exact ih _ _ ex hf ls (lv_sub hl [2, 3, 4, 1, 0] rfl) K0
      · replace hf := ob_neg c_7 hf
        refine lv_aload_n hx hb dX2_wallBits_32 rfl (lv_at hl 0 rfl) ?_
        refine lv_iload_n hx hb dX2_wallBits_33 rfl (lv_at hl 1 rfl) ?_
        refine lv_iload hx hb dX2_wallBits_34 (lv_at hl 4 rfl) ?_
        replace hf := ob_b hf
        obtain ⟨zr_10, hc_11, hf⟩ := hf
        refine vp_callSi (W.runV (As := [.int v1, .int v4]) (rest := []) ⟨hx, hb, hml, hown, hts⟩ (c_f_Lines_number l D cT a_t a_sort a_size a_numbers a_carried k_numbers v1 v4 _ hc_11) (cwV 2 hts gX2_wallBits_X2_number rfl rfl rfl (by decide +kernel) ⟨Nat.le_of_ble_eq_true rfl, Nat.le_of_ble_eq_true rfl⟩) ⟨fun a U g mk q => by obtain ⟨q0, qP, qK, qN⟩ := q; exact ⟨q0, qP, va_K.moved (u := U) (U := U.calling g mk a) (Vm.Alike.refl U.vm) qK, jNw_same (u := U) (U := U.calling g mk a) rfl qN⟩, va_recv hK hP (ci := 2) (q0 := 0) rfl rfl, fun U hU hW => ⟨rfl, by rw [hU]; exact hP.sub [0, 3] rfl, va_K.moved hW.alike hK, jNw_warm hW hN⟩⟩ rfl rfl hl.1 rfl (lv_room (Nat.le_of_ble_eq_true rfl)) dX2_wallBits_36 ⟨Nat.le_of_ble_eq_true rfl, Nat.le_of_ble_eq_true rfl⟩) (fun r_10 er_12 => ?_)
        subst er_12
        refine lv_if_eq (tgt := 49) hx hb dX2_wallBits_39 (by decide) (fun c_13 => ?_) (fun c_13 => ?_)
        · replace hf := ob_pos c_13 hf
          obtain ⟨v4_14, ev4_14⟩ : ∃ y : Int32, y = v4 + 1 := ⟨_, rfl⟩
          replace hf := ob_nm ev4_14 hf
          refine lv_iinc (v := v4_14) (lv' := [(4, .int v4_14), (0, .ref a_t), (1, .int v1), (2, .int v2), (3, .int v3)]) hx hb dX2_wallBits_49 hl (k := 4) rfl (by rw [ev4_14]; rfl) (by decide) rfl (fun ls hl => ?_)
          refine lv_goto (tgt := 15) hx hb dX2_wallBits_52 (by decide) ?_
          exact ih _ _ ex hf ls (lv_sub hl [1, 2, 3, 4, 0] rfl) K0
        · replace hf := ob_neg c_13 hf
          refine lv_iload_n hx hb dX2_wallBits_42 rfl (lv_at hl 3 rfl) ?_
          refine lv_iconst (v := 1) hx hb dX2_wallBits_43 (by decide) ?_
          refine lv_iload hx hb dX2_wallBits_44 (lv_at hl 4 rfl) ?_
          refine lv_ishl hx hb dX2_wallBits_46 ?_
          refine lv_ior hx hb dX2_wallBits_47 ?_
          refine lv_topi (fun v3_15 ev3_15 => ?_)
          replace hf := ob_nm ev3_15 hf
          refine lv_istore_n (lv' := [(3, .int v3_15), (0, .ref a_t), (1, .int v1), (2, .int v2), (4, .int v4)]) hx hb dX2_wallBits_48 rfl hl (by decide) rfl (fun ls hl => ?_)
          obtain ⟨v4_16, ev4_16⟩ : ∃ y : Int32, y = v4 + 1 := ⟨_, rfl⟩
          replace hf := ob_nm ev4_16 hf
          refine lv_iinc (v := v4_16) (lv' := [(4, .int v4_16), (3, .int v3_15), (0, .ref a_t), (1, .int v1), (2, .int v2)]) hx hb dX2_wallBits_49 hl (k := 4) rfl (by rw [ev4_16]; rfl) (by decide) rfl (fun ls hl => ?_)
          refine lv_goto (tgt := 15) hx hb dX2_wallBits_52 (by decide) ?_
          exact ih _ _ ex hf ls (lv_sub hl [2, 3, 4, 1, 0] rfl) K0
set_option maxHeartbeats 4000000 in
set_option maxRecDepth 100000 in
theorem c_f_Lines_wallBits (l : Launch) (D : va_G) (cT : Nat → ClassId) (a_t a_sort a_size a_numbers a_carried : Nat) (k_sort : Nat → Int32) (k_size : Nat → Int32) (k_numbers : Nat → Int32) (v1 : Int32) (v2 : Int32) (r0 : Int32) (hf : f_Lines_wallBits v1 v2 k_sort k_size k_numbers = some r0) : Met l yX2_wallBits wsX2_wallBits rm_Lines_wallBits (va_Pc [.ref a_t, .int v1, .int v2] (fun U => va_P D vwCl [(a_t, .inr (2, [.ref a_sort, .ref a_size, .ref a_numbers, .ref a_carried])), (a_sort, .inl (cT 0, 8, .inl k_sort)), (a_size, .inl (cT 0, 8, .inl k_size)), (a_numbers, .inl (cT 0, 64, .inl k_numbers))] U.heap ∧ va_K D vwCl (jT cT) U ∧ jNw U)) (vp_Si (fun r => r = r0)) 0 0 (fun _ => False) := by
  refine Met.ofW (cc := cX2_wallBits) (maxL := 5) (ret := (some .int)) (by decide) rfl ?_
  intro p e s m args below meth c s₁ B hml hv
  obtain ⟨rfl, hP, hK, hN⟩ := hv
  have hx := B.exec
  have hb := B.bytes
  have hr := B.returns
  have hts := atoms_spec (ws := wsX2_wallBits) B.pre
  have hown : s.vm.findClass RX2 = some m.cls := findClass_of_methodNamed B.named
  have hlocks := B.notSynchronized
  have hl := lv_entry ([.ref a_t, .int v1, .int v2]) (n := 5) (Nat.le_of_ble_eq_true rfl)
  rw [lg_entry_eq]
  generalize (lg_sl ([.ref a_t, .int v1, .int v2]) ++ List.replicate (5 - (lg_sl ([.ref a_t, .int v1, .int v2])).length) Slot.unset).toArray = ls at hl ⊢
  have hl : lv_has ls 5 [(0, .ref a_t), (1, .int v1), (2, .int v2)] := hl
  unfold f_Lines_wallBits at hf
  refine lv_aload_n hx hb dX2_wallBits_0 rfl (lv_at hl 0 rfl) ?_
  refine lv_iload_n hx hb dX2_wallBits_1 rfl (lv_at hl 1 rfl) ?_
  replace hf := ob_b hf
  obtain ⟨zr_1, hc_2, hf⟩ := hf
  refine vp_callSi (W.runV (As := [.int v1]) (rest := []) ⟨hx, hb, hml, hown, hts⟩ (c_f_Lines_isMissing l D cT a_t a_sort a_size a_numbers a_carried k_sort v1 _ hc_2) (cwV 1 hts gX2_wallBits_X2_isMissing rfl rfl rfl (by decide +kernel) ⟨Nat.le_of_ble_eq_true rfl, Nat.le_of_ble_eq_true rfl⟩) ⟨fun a U g mk q => by obtain ⟨q0, qP, qK, qN⟩ := q; exact ⟨q0, qP, va_K.moved (u := U) (U := U.calling g mk a) (Vm.Alike.refl U.vm) qK, jNw_same (u := U) (U := U.calling g mk a) rfl qN⟩, va_recv hK hP (ci := 2) (q0 := 0) rfl rfl, fun U hU hW => ⟨rfl, by rw [hU]; exact hP.sub [0, 1] rfl, va_K.moved hW.alike hK, jNw_warm hW hN⟩⟩ rfl rfl hl.1 rfl (lv_room (Nat.le_of_ble_eq_true rfl)) dX2_wallBits_2 ⟨Nat.le_of_ble_eq_true rfl, Nat.le_of_ble_eq_true rfl⟩) (fun r_1 er_3 => ?_)
  subst er_3
  refine lv_if_eq (tgt := 10) hx hb dX2_wallBits_5 (by decide) (fun c_4 => ?_) (fun c_4 => ?_)
  · replace hf := ob_pos c_4 hf
    refine lv_iconst (v := 0) hx hb dX2_wallBits_10 (by decide) ?_
    refine lv_istore_n (lv' := [(3, .int ((0 : Int32))), (0, .ref a_t), (1, .int v1), (2, .int v2)]) hx hb dX2_wallBits_11 rfl hl (by decide) rfl (fun ls hl => ?_)
    refine lv_iconst (v := 0) hx hb dX2_wallBits_12 (by decide) ?_
    refine lv_istore (lv' := [(4, .int ((0 : Int32))), (3, .int ((0 : Int32))), (0, .ref a_t), (1, .int v1), (2, .int v2)]) hx hb dX2_wallBits_13 hl (by decide) rfl (fun ls hl => ?_)
    replace hf := ob_b hf
    obtain ⟨ex_18, hq_19, hf⟩ := hf
    refine l_f_Lines_wallBits_L15 hx hb hml hown hts hK hN hP jN _ _ ex_18 hq_19 ls (lv_sub hl [2, 3, 4, 1, 0] rfl) (fun v3_20 ee_21 ls hl => ?_)
    have ee_21 := ee_21.symm
    subst ee_21
    refine lv_iload_n hx hb dX2_wallBits_55 rfl (lv_at hl 0 rfl) ?_
    cases hf
    exact W.iret hx hb hr (fun t ht hW => ⟨_, rfl, rfl, ht⟩) (fun q h => by cases h) dX2_wallBits_56
  · replace hf := ob_neg c_4 hf
    refine lv_iconst (v := 0) hx hb dX2_wallBits_8 (by decide) ?_
    cases hf
    exact W.iret hx hb hr (fun t ht hW => ⟨_, rfl, rfl, ht⟩) (fun q h => by cases h) dX2_wallBits_9
theorem iw_wsX2_showWalls_X0 : ∀ w ∈ wsX00, w ∈ wsX2_showWalls := fun _ h => List.mem_cons_of_mem _ (List.mem_append_left _ (List.mem_append_right _ h))
theorem iw_wsX2_showWalls_X2 : ∀ w ∈ wsX20, w ∈ wsX2_showWalls := fun _ h => List.mem_cons_of_mem _ (List.mem_append_right _ h)
abbrev rm_Lines_showWalls : Room := { frames := 2, cells := 0, slots := 0, locals := 47 }
set_option maxHeartbeats 4000000 in
set_option maxRecDepth 100000 in
theorem l_f_Lines_showWalls_L26 {p : Program} {l : Launch} {e : Env} {s : State} {m : MethodId} {args : Array Value} {below : List Frame} {meth : Method} {c : Code} {Q : State → Prop} {A : Nat → Prop} {D : va_G} {cT : Nat → ClassId} {a_t a_p1 a_sort a_size a_numbers a_carried a_p1_kind a_p1_place a_p1_length a_p1_gate a_p1_across a_p1_wide a_p1_high a_p1_shape : Nat} {k_sort : Nat → Int32} {k_size : Nat → Int32} {k_p1_width : Int32} {k_p1_height : Int32} {k_p1_barges : Int32} {k_p1_walls : Int64} {k_p1_taken : Int64} {v2 : Int32} (hx : p.tables.exec = Jvm.exec) (hb : c.code = cX2_showWalls) (hml : c.maxLocals = 4) (hown : s.vm.findClass RX2 = some m.cls) (hts : ∀ w ∈ wsX2_showWalls, w.before args s = true) (hK : va_K D vwCl (jT cT) s) (hN : jNw s) (hA : ∀ q : Nat, s.heap.size ≤ q → A q) : ∀ (n : Nat) (v3 : Int32) (k_numbers : Nat → Int32) (ex : (Nat → Int32)), f_Lines_showWalls_L26 v2 k_p1_width k_p1_walls n v3 k_numbers = some ex → ∀ (H : Heap) (locs : List Loc), va_P D vwCl [(a_t, .inr (2, [.ref a_sort, .ref a_size, .ref a_numbers, .ref a_carried])), (a_sort, .inl (cT 0, 8, .inl k_sort)), (a_size, .inl (cT 0, 8, .inl k_size)), (a_numbers, .inl (cT 0, 64, .inl k_numbers)), (a_p1, .inr (0, [.int k_p1_width, .int k_p1_height, .int k_p1_barges, .long k_p1_walls, .long k_p1_taken, .ref a_p1_kind, .ref a_p1_place, .ref a_p1_length, .ref a_p1_gate, .ref a_p1_across, .ref a_p1_wide, .ref a_p1_high, .ref a_p1_shape]))] H → va_D A [(a_t, .inr (2, [.ref a_sort, .ref a_size, .ref a_numbers, .ref a_carried])), (a_sort, .inl (cT 0, 8, .inl k_sort)), (a_size, .inl (cT 0, 8, .inl k_size)), (a_numbers, .inl (cT 0, 64, .inl k_numbers)), (a_p1, .inr (0, [.int k_p1_width, .int k_p1_height, .int k_p1_barges, .long k_p1_walls, .long k_p1_taken, .ref a_p1_kind, .ref a_p1_place, .ref a_p1_length, .ref a_p1_gate, .ref a_p1_across, .ref a_p1_wide, .ref a_p1_high, .ref a_p1_shape]))] → va_S A s.heap H locs → ∀ (ls : Array Slot), lv_has ls 4 [(0, .ref a_t), (1, .ref a_p1), (2, .int v2), (3, .int v3)] → (∀ (k_numbers_23 : Nat → Int32), ex = k_numbers_23 → ∀ (H : Heap) (locs : List Loc), va_P D vwCl [(a_t, .inr (2, [.ref a_sort, .ref a_size, .ref a_numbers, .ref a_carried])), (a_sort, .inl (cT 0, 8, .inl k_sort)), (a_size, .inl (cT 0, 8, .inl k_size)), (a_numbers, .inl (cT 0, 64, .inl k_numbers_23)), (a_p1, .inr (0, [.int k_p1_width, .int k_p1_height, .int k_p1_barges, .long k_p1_walls, .long k_p1_taken, .ref a_p1_kind, .ref a_p1_place, .ref a_p1_length, .ref a_p1_gate, .ref a_p1_across, .ref a_p1_wide, .ref a_p1_high, .ref a_p1_shape]))] H → va_D A [(a_t, .inr (2, [.ref a_sort, .ref a_size, .ref a_numbers, .ref a_carried])), (a_sort, .inl (cT 0, 8, .inl k_sort)), (a_size, .inl (cT 0, 8, .inl k_size)), (a_numbers, .inl (cT 0, 64, .inl k_numbers_23)), (a_p1, .inr (0, [.int k_p1_width, .int k_p1_height, .int k_p1_barges, .long k_p1_walls, .long k_p1_taken, .ref a_p1_kind, .ref a_p1_place, .ref a_p1_length, .ref a_p1_gate, .ref a_p1_across, .ref a_p1_wide, .ref a_p1_high, .ref a_p1_shape]))] → va_S A s.heap H locs → ∀ (ls : Array Slot), lv_has ls 4 [(0, .ref a_t), (1, .ref a_p1), (2, .int v2)] → W p l e (headSpec wsX2_showWalls rm_Lines_showWalls).room s m args below meth c H locs 0 0 Q (F0 m 60 ls [])) → W p l e (headSpec wsX2_showWalls rm_Lines_showWalls).room s m args below meth c H locs 0 0 Q (F0 m 26 ls []) := by
  intro n
  induction n with
  | zero => intro v3 k_numbers ex hf; exact (ob_none hf).elim
  | succ n ih =>
    intro v3 k_numbers ex hf H locs hP hD hS ls hl K0
    rw [f_Lines_showWalls_L26] at hf
    refine lv_iload_n hx hb dX2_showWalls_26 rfl (lv_at hl 3 rfl) ?_
    refine lv_aload_n hx hb dX2_showWalls_27 rfl (lv_at hl 1 rfl) ?_
    refine va_get (D := D) (ci := 0) (v := .int k_p1_width) (C := RX0) (T := TX0) (N := 13) hx hb hts iw_wsX2_showWalls_X0 hown hK hP 4 rfl rfl 0 (by decide) (hts (.fieldLink RX2 49 "BargeBasin$Chart" "width" "I") (List.mem_of_getElem? (i := 2) (by decide +kernel))) (fun _ h9 => h9) rfl dX2_showWalls_28 ?_
    refine lv_icmp_ge (tgt := 60) hx hb dX2_showWalls_31 (by decide) (fun c_10 => ?_) (fun c_10 => ?_)
    · replace hf := ob_pos c_10 hf
      cases hf
      exact K0 _ rfl _ _ hP hD hS ls (lv_sub hl [0, 1, 2] rfl)
    · replace hf := ob_neg c_10 hf
      refine lv_aload_n hx hb dX2_showWalls_34 rfl (lv_at hl 0 rfl) ?_
      refine lv_iload_n hx hb dX2_showWalls_35 rfl (lv_at hl 2 rfl) ?_
      refine lv_iload_n hx hb dX2_showWalls_36 rfl (lv_at hl 3 rfl) ?_
      refine lv_aload_n hx hb dX2_showWalls_37 rfl (lv_at hl 1 rfl) ?_
      refine lv_iload_n hx hb dX2_showWalls_38 rfl (lv_at hl 3 rfl) ?_
      refine lv_iload_n hx hb dX2_showWalls_39 rfl (lv_at hl 2 rfl) ?_
      replace hf := ob_b hf
      obtain ⟨zr_11, hc_12, hf⟩ := hf
      refine vp_callSi (W.runV (As := [.int v3, .int v2]) (rest := [.int v3, .int v2, .ref a_t]) ⟨hx, hb, hml, hown, hts⟩ (c_f_Chart_isWall l D cT a_p1 a_p1_kind a_p1_place a_p1_length a_p1_gate a_p1_across a_p1_wide a_p1_high a_p1_shape k_p1_width k_p1_height k_p1_barges k_p1_walls k_p1_taken v3 v2 _ hc_12) (cwV 2 hts gX2_showWalls_X0_isWall rfl rfl rfl (by decide +kernel) ⟨Nat.le_of_ble_eq_true rfl, Nat.le_of_ble_eq_true rfl⟩) ⟨fun a U g mk q => by obtain ⟨q0, qP, qK, qN⟩ := q; exact ⟨q0, qP, va_K.moved (u := U) (U := U.calling g mk a) (Vm.Alike.refl U.vm) qK, jNw_same (u := U) (U := U.calling g mk a) rfl qN⟩, va_recv hK hP (ci := 0) (q0 := 4) rfl rfl, fun U hU hW => ⟨rfl, by rw [hU]; exact hP.sub [4] rfl, va_K.moved hW.alike hK, jNw_warm hW hN⟩⟩ rfl rfl hl.1 rfl (lv_room (Nat.le_of_ble_eq_true rfl)) dX2_showWalls_40 ⟨Nat.le_of_ble_eq_true rfl, Nat.le_of_ble_eq_true rfl⟩) (fun r_11 er_13 => ?_)
      subst er_13
      refine lv_if_eq (tgt := 50) hx hb dX2_showWalls_43 (by decide) (fun c_14 => ?_) (fun c_14 => ?_)
      · replace hf := ob_pos c_14 hf
        refine lv_iconst (v := 0) hx hb dX2_showWalls_50 (by decide) ?_
        replace hf := ob_b hf
        obtain ⟨k_numbers_15, hc_16, hf⟩ := hf
        have hPc := hP.sub (ws' := [(a_t, .inr (2, [.ref a_sort, .ref a_size, .ref a_numbers, .ref a_carried])), (a_numbers, .inl (cT 0, 64, .inl k_numbers))]) [0, 3] rfl
        have hDc := hD.sub (ws' := [(a_t, .inr (2, [.ref a_sort, .ref a_size, .ref a_numbers, .ref a_carried])), (a_numbers, .inl (cT 0, 64, .inl k_numbers))]) [0, 3] (by decide) rfl
        have hFc := va_free (wc := [(a_t, .inr (2, [.ref a_sort, .ref a_size, .ref a_numbers, .ref a_carried])), (a_numbers, .inl (cT 0, 64, .inl k_numbers))]) hD hS hA [0, 3] rfl
        refine va_callv (va_runV (As := [.int v2, .int v3, .int ((0 : Int32))]) (rest := []) ⟨hx, hb, hml, hown, hts⟩ (c_f_Lines_write l D cT H.size a_t a_sort a_size a_numbers a_carried k_numbers v2 v3 ((0 : Int32)) _ hc_16) (cwV 3 hts gX2_showWalls_X2_write rfl rfl rfl (by decide +kernel) ⟨Nat.le_of_ble_eq_true rfl, Nat.le_of_ble_eq_true rfl⟩) ⟨fun a U g mk q => by obtain ⟨q0, q1, qP, qK, qN, qD⟩ := q; exact ⟨q0, q1, qP, va_K.moved (u := U) (U := U.calling g mk a) (Vm.Alike.refl U.vm) qK, jNw_same (u := U) (U := U.calling g mk a) rfl qN, qD⟩, va_recv hK hP (ci := 2) (q0 := 0) rfl rfl, fun U hU hW => ⟨rfl, by rw [hU], by rw [hU]; exact hPc, va_K.moved hW.alike hK, jNw_warm hW hN, hDc.weaken (fun _ _ _ _ => trivial)⟩⟩ rfl rfl hl.1 rfl (lv_room (Nat.le_of_ble_eq_true rfl)) dX2_showWalls_51 ⟨Nat.le_of_ble_eq_true rfl, Nat.le_of_ble_eq_true rfl⟩) hS (fun q _ h => hFc q h) hFc (fun u t H1 locs ht hvm er_17 hB hz1 hk1 hS => ?_)
        obtain ⟨hP1, hK1, hD1⟩ := hB
        rw [ht] at hP1
        have hPD := va_join (wr := [(a_sort, .inl (cT 0, 8, .inl k_sort)), (a_size, .inl (cT 0, 8, .inl k_size)), (a_p1, .inr (0, [.int k_p1_width, .int k_p1_height, .int k_p1_barges, .long k_p1_walls, .long k_p1_taken, .ref a_p1_kind, .ref a_p1_place, .ref a_p1_length, .ref a_p1_gate, .ref a_p1_across, .ref a_p1_wide, .ref a_p1_high, .ref a_p1_shape]))]) (w1 := [(a_t, .inr (2, [.ref a_sort, .ref a_size, .ref a_numbers, .ref a_carried])), (a_numbers, .inl (cT 0, 64, .inl k_numbers_15))]) hP hD [0, 3] [1, 2, 4] rfl rfl (by decide) (by decide) hk1 hFc hP1 hD1
        clear hP hD
        obtain ⟨hP, hD⟩ := hPD
        replace hP := hP.sub (ws' := [(a_t, .inr (2, [.ref a_sort, .ref a_size, .ref a_numbers, .ref a_carried])), (a_sort, .inl (cT 0, 8, .inl k_sort)), (a_size, .inl (cT 0, 8, .inl k_size)), (a_numbers, .inl (cT 0, 64, .inl k_numbers_15)), (a_p1, .inr (0, [.int k_p1_width, .int k_p1_height, .int k_p1_barges, .long k_p1_walls, .long k_p1_taken, .ref a_p1_kind, .ref a_p1_place, .ref a_p1_length, .ref a_p1_gate, .ref a_p1_across, .ref a_p1_wide, .ref a_p1_high, .ref a_p1_shape]))]) [3, 0, 1, 4, 2] rfl
        replace hD := hD.sub (ws' := [(a_t, .inr (2, [.ref a_sort, .ref a_size, .ref a_numbers, .ref a_carried])), (a_sort, .inl (cT 0, 8, .inl k_sort)), (a_size, .inl (cT 0, 8, .inl k_size)), (a_numbers, .inl (cT 0, 64, .inl k_numbers_15)), (a_p1, .inr (0, [.int k_p1_width, .int k_p1_height, .int k_p1_barges, .long k_p1_walls, .long k_p1_taken, .ref a_p1_kind, .ref a_p1_place, .ref a_p1_length, .ref a_p1_gate, .ref a_p1_across, .ref a_p1_wide, .ref a_p1_high, .ref a_p1_shape]))]) [3, 0, 1, 4, 2] (by decide) rfl
        clear hPc hDc hFc hP1 hK1 hD1 hk1 hz1
        generalize H1 = H at hP hS ⊢
        obtain ⟨v3_18, ev3_18⟩ : ∃ y : Int32, y = v3 + 1 := ⟨_, rfl⟩
        replace hf := ob_nm ev3_18 hf
        refine lv_iinc (v := v3_18) (lv' := [(3, .int v3_18), (0, .ref a_t), (1, .ref a_p1), (2, .int v2)]) hx hb dX2_showWalls_54 hl (k := 3) rfl (by rw [ev3_18]; rfl) (by decide) rfl (fun ls hl => ?_)
        refine lv_goto (tgt := 26) hx hb dX2_showWalls_57 (by decide) ?_
        exact ih _ _ ex hf _ _ hP hD hS ls (lv_sub hl [1, 2, 3, 0] rfl) K0
      · replace hf := ob_neg c_14 hf
        refine lv_iconst (v := 1) hx hb dX2_showWalls_46 (by decide) ?_
        refine lv_goto (tgt := 51) hx hb dX2_showWalls_47 (by decide) ?_
        replace hf := ob_b hf
        obtain ⟨k_numbers_19, hc_20, hf⟩ := hf
        have hPc := hP.sub (ws' := [(a_t, .inr (2, [.ref a_sort, .ref a_size, .ref a_numbers, .ref a_carried])), (a_numbers, .inl (cT 0, 64, .inl k_numbers))]) [0, 3] rfl
        have hDc := hD.sub (ws' := [(a_t, .inr (2, [.ref a_sort, .ref a_size, .ref a_numbers, .ref a_carried])), (a_numbers, .inl (cT 0, 64, .inl k_numbers))]) [0, 3] (by decide) rfl
        have hFc := va_free (wc := [(a_t, .inr (2, [.ref a_sort, .ref a_size, .ref a_numbers, .ref a_carried])), (a_numbers, .inl (cT 0, 64, .inl k_numbers))]) hD hS hA [0, 3] rfl
        refine va_callv (va_runV (As := [.int v2, .int v3, .int ((1 : Int32))]) (rest := []) ⟨hx, hb, hml, hown, hts⟩ (c_f_Lines_write l D cT H.size a_t a_sort a_size a_numbers a_carried k_numbers v2 v3 ((1 : Int32)) _ hc_20) (cwV 3 hts gX2_showWalls_X2_write rfl rfl rfl (by decide +kernel) ⟨Nat.le_of_ble_eq_true rfl, Nat.le_of_ble_eq_true rfl⟩) ⟨fun a U g mk q => by obtain ⟨q0, q1, qP, qK, qN, qD⟩ := q; exact ⟨q0, q1, qP, va_K.moved (u := U) (U := U.calling g mk a) (Vm.Alike.refl U.vm) qK, jNw_same (u := U) (U := U.calling g mk a) rfl qN, qD⟩, va_recv hK hP (ci := 2) (q0 := 0) rfl rfl, fun U hU hW => ⟨rfl, by rw [hU], by rw [hU]; exact hPc, va_K.moved hW.alike hK, jNw_warm hW hN, hDc.weaken (fun _ _ _ _ => trivial)⟩⟩ rfl rfl hl.1 rfl (lv_room (Nat.le_of_ble_eq_true rfl)) dX2_showWalls_51 ⟨Nat.le_of_ble_eq_true rfl, Nat.le_of_ble_eq_true rfl⟩) hS (fun q _ h => hFc q h) hFc (fun u t H1 locs ht hvm er_21 hB hz1 hk1 hS => ?_)
        obtain ⟨hP1, hK1, hD1⟩ := hB
        rw [ht] at hP1
        have hPD := va_join (wr := [(a_sort, .inl (cT 0, 8, .inl k_sort)), (a_size, .inl (cT 0, 8, .inl k_size)), (a_p1, .inr (0, [.int k_p1_width, .int k_p1_height, .int k_p1_barges, .long k_p1_walls, .long k_p1_taken, .ref a_p1_kind, .ref a_p1_place, .ref a_p1_length, .ref a_p1_gate, .ref a_p1_across, .ref a_p1_wide, .ref a_p1_high, .ref a_p1_shape]))]) (w1 := [(a_t, .inr (2, [.ref a_sort, .ref a_size, .ref a_numbers, .ref a_carried])), (a_numbers, .inl (cT 0, 64, .inl k_numbers_19))]) hP hD [0, 3] [1, 2, 4] rfl rfl (by decide) (by decide) hk1 hFc hP1 hD1
        clear hP hD
        obtain ⟨hP, hD⟩ := hPD
        replace hP := hP.sub (ws' := [(a_t, .inr (2, [.ref a_sort, .ref a_size, .ref a_numbers, .ref a_carried])), (a_sort, .inl (cT 0, 8, .inl k_sort)), (a_size, .inl (cT 0, 8, .inl k_size)), (a_numbers, .inl (cT 0, 64, .inl k_numbers_19)), (a_p1, .inr (0, [.int k_p1_width, .int k_p1_height, .int k_p1_barges, .long k_p1_walls, .long k_p1_taken, .ref a_p1_kind, .ref a_p1_place, .ref a_p1_length, .ref a_p1_gate, .ref a_p1_across, .ref a_p1_wide, .ref a_p1_high, .ref a_p1_shape]))]) [3, 0, 1, 4, 2] rfl
        replace hD := hD.sub (ws' := [(a_t, .inr (2, [.ref a_sort, .ref a_size, .ref a_numbers, .ref a_carried])), (a_sort, .inl (cT 0, 8, .inl k_sort)), (a_size, .inl (cT 0, 8, .inl k_size)), (a_numbers, .inl (cT 0, 64, .inl k_numbers_19)), (a_p1, .inr (0, [.int k_p1_width, .int k_p1_height, .int k_p1_barges, .long k_p1_walls, .long k_p1_taken, .ref a_p1_kind, .ref a_p1_place, .ref a_p1_length, .ref a_p1_gate, .ref a_p1_across, .ref a_p1_wide, .ref a_p1_high, .ref a_p1_shape]))]) [3, 0, 1, 4, 2] (by decide) rfl
        clear hPc hDc hFc hP1 hK1 hD1 hk1 hz1
        generalize H1 = H at hP hS ⊢
        obtain ⟨v3_22, ev3_22⟩ : ∃ y : Int32, y = v3 + 1 := ⟨_, rfl⟩
        replace hf := ob_nm ev3_22 hf
        refine lv_iinc (v := v3_22) (lv' := [(3, .int v3_22), (0, .ref a_t), (1, .ref a_p1), (2, .int v2)]) hx hb dX2_showWalls_54 hl (k := 3) rfl (by rw [ev3_22]; rfl) (by decide) rfl (fun ls hl => ?_)
        refine lv_goto (tgt := 26) hx hb dX2_showWalls_57 (by decide) ?_
        exact ih _ _ ex hf _ _ hP hD hS ls (lv_sub hl [1, 2, 3, 0] rfl) K0
set_option maxHeartbeats 4000000 in
set_option maxRecDepth 100000 in
theorem l_f_Lines_showWalls_L6 {p : Program} {l : Launch} {e : Env} {s : State} {m : MethodId} {args : Array Value} {below : List Frame} {meth : Method} {c : Code} {Q : State → Prop} {A : Nat → Prop} {D : va_G} {cT : Nat → ClassId} {a_t a_p1 a_sort a_size a_numbers a_carried a_p1_kind a_p1_place a_p1_length a_p1_gate a_p1_across a_p1_wide a_p1_high a_p1_shape : Nat} {k_p1_width : Int32} {k_p1_height : Int32} {k_p1_barges : Int32} {k_p1_walls : Int64} {k_p1_taken : Int64} (hx : p.tables.exec = Jvm.exec) (hb : c.code = cX2_showWalls) (hml : c.maxLocals = 4) (hown : s.vm.findClass RX2 = some m.cls) (hts : ∀ w ∈ wsX2_showWalls, w.before args s = true) (hK : va_K D vwCl (jT cT) s) (hN : jNw s) (hA : ∀ q : Nat, s.heap.size ≤ q → A q) : ∀ (n : Nat) (v2 : Int32) (k_sort : Nat → Int32) (k_size : Nat → Int32) (k_numbers : Nat → Int32) (ex : (Nat → Int32) × (Nat → Int32) × (Nat → Int32)), f_Lines_showWalls_L6 k_p1_width k_p1_height k_p1_walls n v2 k_sort k_size k_numbers = some ex → ∀ (H : Heap) (locs : List Loc), va_P D vwCl [(a_t, .inr (2, [.ref a_sort, .ref a_size, .ref a_numbers, .ref a_carried])), (a_sort, .inl (cT 0, 8, .inl k_sort)), (a_size, .inl (cT 0, 8, .inl k_size)), (a_numbers, .inl (cT 0, 64, .inl k_numbers)), (a_p1, .inr (0, [.int k_p1_width, .int k_p1_height, .int k_p1_barges, .long k_p1_walls, .long k_p1_taken, .ref a_p1_kind, .ref a_p1_place, .ref a_p1_length, .ref a_p1_gate, .ref a_p1_across, .ref a_p1_wide, .ref a_p1_high, .ref a_p1_shape]))] H → va_D A [(a_t, .inr (2, [.ref a_sort, .ref a_size, .ref a_numbers, .ref a_carried])), (a_sort, .inl (cT 0, 8, .inl k_sort)), (a_size, .inl (cT 0, 8, .inl k_size)), (a_numbers, .inl (cT 0, 64, .inl k_numbers)), (a_p1, .inr (0, [.int k_p1_width, .int k_p1_height, .int k_p1_barges, .long k_p1_walls, .long k_p1_taken, .ref a_p1_kind, .ref a_p1_place, .ref a_p1_length, .ref a_p1_gate, .ref a_p1_across, .ref a_p1_wide, .ref a_p1_high, .ref a_p1_shape]))] → va_S A s.heap H locs → ∀ (ls : Array Slot), lv_has ls 4 [(0, .ref a_t), (1, .ref a_p1), (2, .int v2)] → (∀ (k_sort_29 : Nat → Int32) (k_size_30 : Nat → Int32) (k_numbers_31 : Nat → Int32), ex = (k_sort_29, k_size_30, k_numbers_31) → ∀ (H : Heap) (locs : List Loc), va_P D vwCl [(a_t, .inr (2, [.ref a_sort, .ref a_size, .ref a_numbers, .ref a_carried])), (a_sort, .inl (cT 0, 8, .inl k_sort_29)), (a_size, .inl (cT 0, 8, .inl k_size_30)), (a_numbers, .inl (cT 0, 64, .inl k_numbers_31)), (a_p1, .inr (0, [.int k_p1_width, .int k_p1_height, .int k_p1_barges, .long k_p1_walls, .long k_p1_taken, .ref a_p1_kind, .ref a_p1_place, .ref a_p1_length, .ref a_p1_gate, .ref a_p1_across, .ref a_p1_wide, .ref a_p1_high, .ref a_p1_shape]))] H → va_D A [(a_t, .inr (2, [.ref a_sort, .ref a_size, .ref a_numbers, .ref a_carried])), (a_sort, .inl (cT 0, 8, .inl k_sort_29)), (a_size, .inl (cT 0, 8, .inl k_size_30)), (a_numbers, .inl (cT 0, 64, .inl k_numbers_31)), (a_p1, .inr (0, [.int k_p1_width, .int k_p1_height, .int k_p1_barges, .long k_p1_walls, .long k_p1_taken, .ref a_p1_kind, .ref a_p1_place, .ref a_p1_length, .ref a_p1_gate, .ref a_p1_across, .ref a_p1_wide, .ref a_p1_high, .ref a_p1_shape]))] → va_S A s.heap H locs → ∀ (ls : Array Slot), lv_has ls 4 [] → W p l e (headSpec wsX2_showWalls rm_Lines_showWalls).room s m args below meth c H locs 0 0 Q (F0 m 66 ls [])) → W p l e (headSpec wsX2_showWalls rm_Lines_showWalls).room s m args below meth c H locs 0 0 Q (F0 m 6 ls []) := by
  intro n
  induction n with
  | zero => intro v2 k_sort k_size k_numbers ex hf; exact (ob_none hf).elim
  | succ n ih =>
    intro v2 k_sort k_size k_numbers ex hf H locs hP hD hS ls hl K0
    rw [f_Lines_showWalls_L6] at hf
    refine lv_iload_n hx hb dX2_showWalls_6 rfl (lv_at hl 2 rfl) ?_
    refine lv_aload_n hx hb dX2_showWalls_7 rfl (lv_at hl 1 rfl) ?_
    refine va_get (D := D) (ci := 0) (v := .int k_p1_height) (C := RX0) (T := TX0) (N := 13) hx hb hts iw_wsX2_showWalls_X0 hown hK hP 4 rfl rfl 1 (by decide) (hts (.fieldLink RX2 43 "BargeBasin$Chart" "height" "I") (List.mem_of_getElem? (i := 1) (by decide +kernel))) (fun _ h9 => h9) rfl dX2_showWalls_8 ?_
    refine lv_icmp_ge (tgt := 66) hx hb dX2_showWalls_11 (by decide) (fun c_4 => ?_) (fun c_4 => ?_)
    · replace hf := ob_pos c_4 hf
      cases hf
      exact K0 _ _ _ rfl _ _ hP hD hS ls (lv_sub hl [] rfl)
    · replace hf := ob_neg c_4 hf
      refine lv_aload_n hx hb dX2_showWalls_14 rfl (lv_at hl 0 rfl) ?_
      refine lv_iload_n hx hb dX2_showWalls_15 rfl (lv_at hl 2 rfl) ?_
      refine lv_iconst (v := 0) hx hb dX2_showWalls_16 (by decide) ?_
      refine lv_aload_n hx hb dX2_showWalls_17 rfl (lv_at hl 1 rfl) ?_
      refine va_get (D := D) (ci := 0) (v := .int k_p1_width) (C := RX0) (T := TX0) (N := 13) hx hb hts iw_wsX2_showWalls_X0 hown hK hP 4 rfl rfl 0 (by decide) (hts (.fieldLink RX2 49 "BargeBasin$Chart" "width" "I") (List.mem_of_getElem? (i := 2) (by decide +kernel))) (fun _ h9 => h9) rfl dX2_showWalls_18 ?_
      replace hf := ob_b hf
      obtain ⟨⟨k_sort_5, k_size_6, k_numbers_7⟩, hc_8, hf⟩ := hf
      replace hf := ob_un3 hf
      have hPc := hP.sub (ws' := [(a_t, .inr (2, [.ref a_sort, .ref a_size, .ref a_numbers, .ref a_carried])), (a_sort, .inl (cT 0, 8, .inl k_sort)), (a_size, .inl (cT 0, 8, .inl k_size)), (a_numbers, .inl (cT 0, 64, .inl k_numbers))]) [0, 1, 2, 3] rfl
      have hDc := hD.sub (ws' := [(a_t, .inr (2, [.ref a_sort, .ref a_size, .ref a_numbers, .ref a_carried])), (a_sort, .inl (cT 0, 8, .inl k_sort)), (a_size, .inl (cT 0, 8, .inl k_size)), (a_numbers, .inl (cT 0, 64, .inl k_numbers))]) [0, 1, 2, 3] (by decide) rfl
      have hFc := va_free (wc := [(a_t, .inr (2, [.ref a_sort, .ref a_size, .ref a_numbers, .ref a_carried])), (a_sort, .inl (cT 0, 8, .inl k_sort)), (a_size, .inl (cT 0, 8, .inl k_size)), (a_numbers, .inl (cT 0, 64, .inl k_numbers))]) hD hS hA [0, 1, 2, 3] rfl
      refine va_callv (va_runV (As := [.int v2, .int ((0 : Int32)), .int k_p1_width]) (rest := []) ⟨hx, hb, hml, hown, hts⟩ (c_f_Lines_lay l D cT H.size a_t a_sort a_size a_numbers a_carried k_sort k_size k_numbers v2 ((0 : Int32)) k_p1_width _ _ _ hc_8) (cwV 3 hts gX2_showWalls_X2_lay rfl rfl rfl (by decide +kernel) ⟨Nat.le_of_ble_eq_true rfl, Nat.le_of_ble_eq_true rfl⟩) ⟨fun a U g mk q => by obtain ⟨q0, q1, qP, qK, qN, qD⟩ := q; exact ⟨q0, q1, qP, va_K.moved (u := U) (U := U.calling g mk a) (Vm.Alike.refl U.vm) qK, jNw_same (u := U) (U := U.calling g mk a) rfl qN, qD⟩, va_recv hK hP (ci := 2) (q0 := 0) rfl rfl, fun U hU hW => ⟨rfl, by rw [hU], by rw [hU]; exact hPc, va_K.moved hW.alike hK, jNw_warm hW hN, hDc.weaken (fun _ _ _ _ => trivial)⟩⟩ rfl rfl hl.1 rfl (lv_room (Nat.le_of_ble_eq_true rfl)) dX2_showWalls_21 ⟨Nat.le_of_ble_eq_true rfl, Nat.le_of_ble_eq_true rfl⟩) hS (fun q _ h => hFc q h) hFc (fun u t H1 locs ht hvm er_9 hB hz1 hk1 hS => ?_)
      obtain ⟨hP1, hK1, hD1⟩ := hB
      rw [ht] at hP1
      have hPD := va_join (wr := [(a_p1, .inr (0, [.int k_p1_width, .int k_p1_height, .int k_p1_barges, .long k_p1_walls, .long k_p1_taken, .ref a_p1_kind, .ref a_p1_place, .ref a_p1_length, .ref a_p1_gate, .ref a_p1_across, .ref a_p1_wide, .ref a_p1_high, .ref a_p1_shape]))]) (w1 := [(a_t, .inr (2, [.ref a_sort, .ref a_size, .ref a_numbers, .ref a_carried])), (a_sort, .inl (cT 0, 8, .inl k_sort_5)), (a_size, .inl (cT 0, 8, .inl k_size_6)), (a_numbers, .inl (cT 0, 64, .inl k_numbers_7))]) hP hD [0, 1, 2, 3] [4] rfl rfl (by decide) (by decide) hk1 hFc hP1 hD1
      clear hP hD
      obtain ⟨hP, hD⟩ := hPD
      replace hP := hP.sub (ws' := [(a_t, .inr (2, [.ref a_sort, .ref a_size, .ref a_numbers, .ref a_carried])), (a_sort, .inl (cT 0, 8, .inl k_sort_5)), (a_size, .inl (cT 0, 8, .inl k_size_6)), (a_numbers, .inl (cT 0, 64, .inl k_numbers_7)), (a_p1, .inr (0, [.int k_p1_width, .int k_p1_height, .int k_p1_barges, .long k_p1_walls, .long k_p1_taken, .ref a_p1_kind, .ref a_p1_place, .ref a_p1_length, .ref a_p1_gate, .ref a_p1_across, .ref a_p1_wide, .ref a_p1_high, .ref a_p1_shape]))]) [1, 2, 3, 4, 0] rfl
      replace hD := hD.sub (ws' := [(a_t, .inr (2, [.ref a_sort, .ref a_size, .ref a_numbers, .ref a_carried])), (a_sort, .inl (cT 0, 8, .inl k_sort_5)), (a_size, .inl (cT 0, 8, .inl k_size_6)), (a_numbers, .inl (cT 0, 64, .inl k_numbers_7)), (a_p1, .inr (0, [.int k_p1_width, .int k_p1_height, .int k_p1_barges, .long k_p1_walls, .long k_p1_taken, .ref a_p1_kind, .ref a_p1_place, .ref a_p1_length, .ref a_p1_gate, .ref a_p1_across, .ref a_p1_wide, .ref a_p1_high, .ref a_p1_shape]))]) [1, 2, 3, 4, 0] (by decide) rfl
      clear hPc hDc hFc hP1 hK1 hD1 hk1 hz1
      generalize H1 = H at hP hS ⊢
      refine lv_iconst (v := 0) hx hb dX2_showWalls_24 (by decide) ?_
      refine lv_istore_n (lv' := [(3, .int ((0 : Int32))), (0, .ref a_t), (1, .ref a_p1), (2, .int v2)]) hx hb dX2_showWalls_25 rfl hl (by decide) rfl (fun ls hl => ?_)
      replace hf := ob_b hf
      obtain ⟨ex_24, hq_25, hf⟩ := hf
      refine l_f_Lines_showWalls_L26 hx hb hml hown hts hK hN hA jN _ _ ex_24 hq_25 _ _ hP hD hS ls (lv_sub hl [1, 2, 3, 0] rfl) (fun k_numbers_26 ee_28 H locs hP hD hS ls hl => ?_)
      have ee_28 := ee_28.symm
      subst ee_28
      obtain ⟨v2_27, ev2_27⟩ : ∃ y : Int32, y = v2 + 1 := ⟨_, rfl⟩
      replace hf := ob_nm ev2_27 hf
      refine lv_iinc (v := v2_27) (lv' := [(2, .int v2_27), (0, .ref a_t), (1, .ref a_p1)]) hx hb dX2_showWalls_60 hl (k := 2) rfl (by rw [ev2_27]; rfl) (by decide) rfl (fun ls hl => ?_)
      refine lv_goto (tgt := 6) hx hb dX2_showWalls_63 (by decide) ?_
      exact ih _ _ _ _ ex hf _ _ hP hD hS ls (lv_sub hl [1, 2, 0] rfl) K0
set_option maxHeartbeats 4000000 in
set_option maxRecDepth 100000 in
theorem c_f_Lines_showWalls (l : Launch) (D : va_G) (cT : Nat → ClassId) (sz : Nat) (a_t a_p1 a_sort a_size a_numbers a_carried a_p1_kind a_p1_place a_p1_length a_p1_gate a_p1_across a_p1_wide a_p1_high a_p1_shape : Nat) (k_sort : Nat → Int32) (k_size : Nat → Int32) (k_numbers : Nat → Int32) (k_p1_width : Int32) (k_p1_height : Int32) (k_p1_barges : Int32) (k_p1_walls : Int64) (k_p1_taken : Int64) (k_sort₉ : Nat → Int32) (k_size₉ : Nat → Int32) (k_numbers₉ : Nat → Int32) (hf : f_Lines_showWalls k_sort k_size k_numbers k_p1_width k_p1_height k_p1_walls = some (k_sort₉, k_size₉, k_numbers₉)) : Met l yX2_showWalls wsX2_showWalls rm_Lines_showWalls (va_Pc [.ref a_t, .ref a_p1] (fun U => U.heap.size = sz ∧ va_P D vwCl [(a_t, .inr (2, [.ref a_sort, .ref a_size, .ref a_numbers, .ref a_carried])), (a_sort, .inl (cT 0, 8, .inl k_sort)), (a_size, .inl (cT 0, 8, .inl k_size)), (a_numbers, .inl (cT 0, 64, .inl k_numbers)), (a_p1, .inr (0, [.int k_p1_width, .int k_p1_height, .int k_p1_barges, .long k_p1_walls, .long k_p1_taken, .ref a_p1_kind, .ref a_p1_place, .ref a_p1_length, .ref a_p1_gate, .ref a_p1_across, .ref a_p1_wide, .ref a_p1_high, .ref a_p1_shape]))] U.heap ∧ va_K D vwCl (jT cT) U ∧ jNw U ∧ va_D (fun _ => True) [(a_t, .inr (2, [.ref a_sort, .ref a_size, .ref a_numbers, .ref a_carried])), (a_sort, .inl (cT 0, 8, .inl k_sort)), (a_size, .inl (cT 0, 8, .inl k_size)), (a_numbers, .inl (cT 0, 64, .inl k_numbers)), (a_p1, .inr (0, [.int k_p1_width, .int k_p1_height, .int k_p1_barges, .long k_p1_walls, .long k_p1_taken, .ref a_p1_kind, .ref a_p1_place, .ref a_p1_length, .ref a_p1_gate, .ref a_p1_across, .ref a_p1_wide, .ref a_p1_high, .ref a_p1_shape]))])) (va_Qv (fun _ : Unit => True) (fun (_ : Unit) t => va_P D vwCl [(a_t, .inr (2, [.ref a_sort, .ref a_size, .ref a_numbers, .ref a_carried])), (a_sort, .inl (cT 0, 8, .inl k_sort₉)), (a_size, .inl (cT 0, 8, .inl k_size₉)), (a_numbers, .inl (cT 0, 64, .inl k_numbers₉)), (a_p1, .inr (0, [.int k_p1_width, .int k_p1_height, .int k_p1_barges, .long k_p1_walls, .long k_p1_taken, .ref a_p1_kind, .ref a_p1_place, .ref a_p1_length, .ref a_p1_gate, .ref a_p1_across, .ref a_p1_wide, .ref a_p1_high, .ref a_p1_shape]))] t.heap ∧ va_K D vwCl (jT cT) t ∧ va_D (va_A [(a_t, .inr (2, [.ref a_sort, .ref a_size, .ref a_numbers, .ref a_carried])), (a_sort, .inl (cT 0, 8, .inl k_sort)), (a_size, .inl (cT 0, 8, .inl k_size)), (a_numbers, .inl (cT 0, 64, .inl k_numbers)), (a_p1, .inr (0, [.int k_p1_width, .int k_p1_height, .int k_p1_barges, .long k_p1_walls, .long k_p1_taken, .ref a_p1_kind, .ref a_p1_place, .ref a_p1_length, .ref a_p1_gate, .ref a_p1_across, .ref a_p1_wide, .ref a_p1_high, .ref a_p1_shape]))] sz) [(a_t, .inr (2, [.ref a_sort, .ref a_size, .ref a_numbers, .ref a_carried])), (a_sort, .inl (cT 0, 8, .inl k_sort₉)), (a_size, .inl (cT 0, 8, .inl k_size₉)), (a_numbers, .inl (cT 0, 64, .inl k_numbers₉)), (a_p1, .inr (0, [.int k_p1_width, .int k_p1_height, .int k_p1_barges, .long k_p1_walls, .long k_p1_taken, .ref a_p1_kind, .ref a_p1_place, .ref a_p1_length, .ref a_p1_gate, .ref a_p1_across, .ref a_p1_wide, .ref a_p1_high, .ref a_p1_shape]))]) (va_A [(a_t, .inr (2, [.ref a_sort, .ref a_size, .ref a_numbers, .ref a_carried])), (a_sort, .inl (cT 0, 8, .inl k_sort)), (a_size, .inl (cT 0, 8, .inl k_size)), (a_numbers, .inl (cT 0, 64, .inl k_numbers)), (a_p1, .inr (0, [.int k_p1_width, .int k_p1_height, .int k_p1_barges, .long k_p1_walls, .long k_p1_taken, .ref a_p1_kind, .ref a_p1_place, .ref a_p1_length, .ref a_p1_gate, .ref a_p1_across, .ref a_p1_wide, .ref a_p1_high, .ref a_p1_shape]))] sz)) 0 0 (va_A [(a_t, .inr (2, [.ref a_sort, .ref a_size, .ref a_numbers, .ref a_carried])), (a_sort, .inl (cT 0, 8, .inl k_sort)), (a_size, .inl (cT 0, 8, .inl k_size)), (a_numbers, .inl (cT 0, 64, .inl k_numbers)), (a_p1, .inr (0, [.int k_p1_width, .int k_p1_height, .int k_p1_barges, .long k_p1_walls, .long k_p1_taken, .ref a_p1_kind, .ref a_p1_place, .ref a_p1_length, .ref a_p1_gate, .ref a_p1_across, .ref a_p1_wide, .ref a_p1_high, .ref a_p1_shape]))] sz) := by
  refine Met.ofW (cc := cX2_showWalls) (maxL := 4) (ret := none) (by decide) rfl ?_
  intro p e s m args below meth c s₁ B hml hv
  obtain ⟨rfl, hsz, hP, hK, hN, hD0⟩ := hv
  have hx := B.exec
  have hb := B.bytes
  have hr := B.returns
  have hts := atoms_spec (ws := wsX2_showWalls) B.pre
  have hown : s.vm.findClass RX2 = some m.cls := findClass_of_methodNamed B.named
  have hlocks := B.notSynchronized
  subst hsz
  have hD := hD0.self (sz := s.heap.size)
  clear hD0
  generalize hAe : va_A [(a_t, .inr (2, [.ref a_sort, .ref a_size, .ref a_numbers, .ref a_carried])), (a_sort, .inl (cT 0, 8, .inl k_sort)), (a_size, .inl (cT 0, 8, .inl k_size)), (a_numbers, .inl (cT 0, 64, .inl k_numbers)), (a_p1, .inr (0, [.int k_p1_width, .int k_p1_height, .int k_p1_barges, .long k_p1_walls, .long k_p1_taken, .ref a_p1_kind, .ref a_p1_place, .ref a_p1_length, .ref a_p1_gate, .ref a_p1_across, .ref a_p1_wide, .ref a_p1_high, .ref a_p1_shape]))] s.heap.size = A at hD ⊢
  have hA : ∀ q : Nat, s.heap.size ≤ q → A q := fun q h => by rw [← hAe]; exact Or.inr h
  clear hAe
  have hl := lv_entry ([.ref a_t, .ref a_p1]) (n := 4) (Nat.le_of_ble_eq_true rfl)
  rw [lg_entry_eq]
  generalize (lg_sl ([.ref a_t, .ref a_p1]) ++ List.replicate (4 - (lg_sl ([.ref a_t, .ref a_p1])).length) Slot.unset).toArray = ls at hl ⊢
  have hl : lv_has ls 4 [(0, .ref a_t), (1, .ref a_p1)] := hl
  refine j_start (A := A) hP (fun H locs hP hS => ?_)
  unfold f_Lines_showWalls at hf
  refine lv_aload_n hx hb dX2_showWalls_0 rfl (lv_at hl 0 rfl) ?_
  replace hf := ob_b hf
  obtain ⟨k_sort_1, hc_2, hf⟩ := hf
  have hPc := hP.sub (ws' := [(a_t, .inr (2, [.ref a_sort, .ref a_size, .ref a_numbers, .ref a_carried])), (a_sort, .inl (cT 0, 8, .inl k_sort))]) [0, 1] rfl
  have hDc := hD.sub (ws' := [(a_t, .inr (2, [.ref a_sort, .ref a_size, .ref a_numbers, .ref a_carried])), (a_sort, .inl (cT 0, 8, .inl k_sort))]) [0, 1] (by decide) rfl
  have hFc := va_free (wc := [(a_t, .inr (2, [.ref a_sort, .ref a_size, .ref a_numbers, .ref a_carried])), (a_sort, .inl (cT 0, 8, .inl k_sort))]) hD hS hA [0, 1] rfl
  refine va_callv (va_runV (As := []) (rest := []) ⟨hx, hb, hml, hown, hts⟩ (c_f_Lines_tearAll l D cT H.size a_t a_sort a_size a_numbers a_carried k_sort _ hc_2) (cwV 0 hts gX2_showWalls_X2_tearAll rfl rfl rfl (by decide +kernel) ⟨Nat.le_of_ble_eq_true rfl, Nat.le_of_ble_eq_true rfl⟩) ⟨fun a U g mk q => by obtain ⟨q0, q1, qP, qK, qN, qD⟩ := q; exact ⟨q0, q1, qP, va_K.moved (u := U) (U := U.calling g mk a) (Vm.Alike.refl U.vm) qK, jNw_same (u := U) (U := U.calling g mk a) rfl qN, qD⟩, va_recv hK hP (ci := 2) (q0 := 0) rfl rfl, fun U hU hW => ⟨rfl, by rw [hU], by rw [hU]; exact hPc, va_K.moved hW.alike hK, jNw_warm hW hN, hDc.weaken (fun _ _ _ _ => trivial)⟩⟩ rfl rfl hl.1 rfl (lv_room (Nat.le_of_ble_eq_true rfl)) dX2_showWalls_1 ⟨Nat.le_of_ble_eq_true rfl, Nat.le_of_ble_eq_true rfl⟩) hS (fun q _ h => hFc q h) hFc (fun u t H1 locs ht hvm er_3 hB hz1 hk1 hS => ?_)
  obtain ⟨hP1, hK1, hD1⟩ := hB
  rw [ht] at hP1
  have hPD := va_join (wr := [(a_size, .inl (cT 0, 8, .inl k_size)), (a_numbers, .inl (cT 0, 64, .inl k_numbers)), (a_p1, .inr (0, [.int k_p1_width, .int k_p1_height, .int k_p1_barges, .long k_p1_walls, .long k_p1_taken, .ref a_p1_kind, .ref a_p1_place, .ref a_p1_length, .ref a_p1_gate, .ref a_p1_across, .ref a_p1_wide, .ref a_p1_high, .ref a_p1_shape]))]) (w1 := [(a_t, .inr (2, [.ref a_sort, .ref a_size, .ref a_numbers, .ref a_carried])), (a_sort, .inl (cT 0, 8, .inl k_sort_1))]) hP hD [0, 1] [2, 3, 4] rfl rfl (by decide) (by decide) hk1 hFc hP1 hD1
  clear hP hD
  obtain ⟨hP, hD⟩ := hPD
  replace hP := hP.sub (ws' := [(a_t, .inr (2, [.ref a_sort, .ref a_size, .ref a_numbers, .ref a_carried])), (a_sort, .inl (cT 0, 8, .inl k_sort_1)), (a_size, .inl (cT 0, 8, .inl k_size)), (a_numbers, .inl (cT 0, 64, .inl k_numbers)), (a_p1, .inr (0, [.int k_p1_width, .int k_p1_height, .int k_p1_barges, .long k_p1_walls, .long k_p1_taken, .ref a_p1_kind, .ref a_p1_place, .ref a_p1_length, .ref a_p1_gate, .ref a_p1_across, .ref a_p1_wide, .ref a_p1_high, .ref a_p1_shape]))]) [3, 4, 0, 1, 2] rfl
  replace hD := hD.sub (ws' := [(a_t, .inr (2, [.ref a_sort, .ref a_size, .ref a_numbers, .ref a_carried])), (a_sort, .inl (cT 0, 8, .inl k_sort_1)), (a_size, .inl (cT 0, 8, .inl k_size)), (a_numbers, .inl (cT 0, 64, .inl k_numbers)), (a_p1, .inr (0, [.int k_p1_width, .int k_p1_height, .int k_p1_barges, .long k_p1_walls, .long k_p1_taken, .ref a_p1_kind, .ref a_p1_place, .ref a_p1_length, .ref a_p1_gate, .ref a_p1_across, .ref a_p1_wide, .ref a_p1_high, .ref a_p1_shape]))]) [3, 4, 0, 1, 2] (by decide) rfl
  clear hPc hDc hFc hP1 hK1 hD1 hk1 hz1
  generalize H1 = H at hP hS ⊢
  refine lv_iconst (v := 0) hx hb dX2_showWalls_4 (by decide) ?_
  refine lv_istore_n (lv' := [(2, .int ((0 : Int32))), (0, .ref a_t), (1, .ref a_p1)]) hx hb dX2_showWalls_5 rfl hl (by decide) rfl (fun ls hl => ?_)
  replace hf := ob_b hf
  obtain ⟨ex_32, hq_33, hf⟩ := hf
  refine l_f_Lines_showWalls_L6 hx hb hml hown hts hK hN hA jN _ _ _ _ ex_32 hq_33 _ _ hP hD hS ls (lv_sub hl [1, 2, 0] rfl) (fun k_sort_34 k_size_35 k_numbers_36 ee_37 H locs hP hD hS ls hl => ?_)
  subst ee_37
  replace hf := ob_un3 hf
  replace hf := ob_t3 hf
  obtain ⟨ee0, ee1, ee2⟩ := hf
  subst ee0
  subst ee1
  subst ee2
  exact W.vret hx hb hr (fun t ht hW => ⟨⟨(), rfl, trivial, by rw [ht]; exact hP, va_K.moved hW.alike hK, hD⟩, hS.F ht⟩) hS.2.2 dX2_showWalls_66
theorem iw_wsX3_init_X3 : ∀ w ∈ wsX30, w ∈ wsX3_init := fun _ h => List.mem_cons_of_mem _ (List.mem_append_right _ h)
abbrev rm_Log_init : Room := { frames := 1, cells := 1, slots := 60, locals := 12 }
set_option maxHeartbeats 4000000 in
set_option maxRecDepth 100000 in
theorem c_f_Log_init (l : Launch) (D : va_G) (cT : Nat → ClassId) (sz : Nat) (a_t : Nat) (k_first : Int32) (k_done : Int32) (k_undone : Int32) (hf : f_Log_init  = some ()) : Met l yX3_init wsX3_init rm_Log_init (va_Pc [.ref a_t] (fun U => U.heap.size = sz ∧ va_P D vwCl [(a_t, .inr (3, [.null, .int k_first, .int k_done, .int k_undone]))] U.heap ∧ va_K D vwCl (jT cT) U ∧ jNw U ∧ va_D (fun _ => True) [(a_t, .inr (3, [.null, .int k_first, .int k_done, .int k_undone]))])) (va_Qv (fun _ : Unit => True) (fun (_ : Unit) t => ∃ (a_moves : Nat), va_P D vwCl [(a_t, .inr (3, [.ref a_moves, .int k_first, .int k_done, .int k_undone])), (a_moves, .inl (cT 0, 60, .inl (fun _ => (0 : Int32))))] t.heap ∧ va_K D vwCl (jT cT) t ∧ va_D (va_A [(a_t, .inr (3, [.null, .int k_first, .int k_done, .int k_undone]))] sz) [(a_t, .inr (3, [.ref a_moves, .int k_first, .int k_done, .int k_undone])), (a_moves, .inl (cT 0, 60, .inl (fun _ => (0 : Int32))))]) (va_A [(a_t, .inr (3, [.null, .int k_first, .int k_done, .int k_undone]))] sz)) 1 60 (va_A [(a_t, .inr (3, [.null, .int k_first, .int k_done, .int k_undone]))] sz) := by
  refine Met.ofW (cc := cX3_init) (maxL := 1) (ret := none) (by decide) rfl ?_
  intro p e s m args below meth c s₁ B hml hv
  obtain ⟨rfl, hsz, hP, hK, hN, hD0⟩ := hv
  have hx := B.exec
  have hb := B.bytes
  have hr := B.returns
  have hts := atoms_spec (ws := wsX3_init) B.pre
  have hown : s.vm.findClass RX3 = some m.cls := findClass_of_methodNamed B.named
  have hlocks := B.notSynchronized
  have hin : meth.name = "<init>" := (name_of_methodNamed B.named B.method).1
  subst hsz
  have hD := hD0.self (sz := s.heap.size)
  clear hD0
  generalize hAe : va_A [(a_t, .inr (3, [.null, .int k_first, .int k_done, .int k_undone]))] s.heap.size = A at hD ⊢
  have hA : ∀ q : Nat, s.heap.size ≤ q → A q := fun q h => by rw [← hAe]; exact Or.inr h
  clear hAe
  have hl := lv_entry ([.ref a_t]) (n := 1) (Nat.le_of_ble_eq_true rfl)
  rw [lg_entry_eq]
  generalize (lg_sl ([.ref a_t]) ++ List.replicate (1 - (lg_sl ([.ref a_t])).length) Slot.unset).toArray = ls at hl ⊢
  have hl : lv_has ls 1 [(0, .ref a_t)] := hl
  refine j_start (A := A) hP (fun H locs hP hS => ?_)
  unfold f_Log_init at hf
  refine lv_aload_n hx hb dX3_init_0 rfl (lv_at hl 0 rfl) ?_
  refine W.objInit hx hb hown (hts (.methodLink RX3 1 objectInit) (List.mem_of_getElem? (i := 1) (by decide +kernel))) (hts (.instanceMethod objectInit) (List.mem_of_getElem? (i := 2) (by decide +kernel))) (hts _ (by decide +kernel)) rfl (by rw [hml]; exact hl.1) rfl dX3_init_1 (Nat.le_of_ble_eq_true rfl) (Nat.le_of_ble_eq_true rfl) ?_
  refine W.eq (g2 := F0 m 4 ls []) rfl ?_
  refine lv_aload_n hx hb dX3_init_4 rfl (lv_at hl 0 rfl) ?_
  refine lv_bipush (v := 60) hx hb dX3_init_5 (by decide) ?_
  refine jnewa (atype := .int) (t0 := 0) (ty := .int) (N2 := 60) (a0 := (60, .inl (fun _ => 0))) hx hb (hts (.arrayClass .int) (List.mem_of_getElem? (i := 4) (by decide +kernel))) rfl hK hP hD hS hA rfl (fun _ => rfl) (by decide) (by decide) (by decide) (Nat.le_of_ble_eq_true rfl) (Nat.le_of_ble_eq_true rfl) dX3_init_7 (fun a_n7 H hP hD hS => ?_)
  replace hP : va_P D vwCl [(a_t, .inr (3, [.null, .int k_first, .int k_done, .int k_undone])), (a_n7, .inl (cT 0, 60, .inl (fun _ => (0 : Int32))))] H := hP
  replace hD : va_D A [(a_t, .inr (3, [.null, .int k_first, .int k_done, .int k_undone])), (a_n7, .inl (cT 0, 60, .inl (fun _ => (0 : Int32))))] := hD
  refine W.widen (k := 1) (n := 60) (Nat.le_of_ble_eq_true rfl) (Nat.le_of_ble_eq_true rfl) ?_
  refine va_putF (D := D) (ci := 3) (v := .ref a_n7) (ty := (.array .int)) (C := RX3) (T := TX3) (N := 4) hx hb hts iw_wsX3_init_X3 tyX3 tyX3_ok nmX3 hown hK hP hD hS 0 rfl rfl 0 (by decide) (hts (.fieldLink RX3 9 "BargeBasin$Log" "moves" "[I") (List.mem_of_getElem? (i := 5) (by decide +kernel))) (fun _ h9 => h9) rfl hin rfl (by decide +kernel) rfl rfl (Nat.le_of_ble_eq_true rfl) dX3_init_9 (fun H locs hP hD hS => ?_)
  replace hP : va_P D vwCl [(a_t, .inr (3, [.ref a_n7, .int k_first, .int k_done, .int k_undone])), (a_n7, .inl (cT 0, 60, .inl (fun _ => (0 : Int32))))] H := hP
  replace hD : va_D A [(a_t, .inr (3, [.ref a_n7, .int k_first, .int k_done, .int k_undone])), (a_n7, .inl (cT 0, 60, .inl (fun _ => (0 : Int32))))] := hD
  cases hf
  refine W.widen (k := 1) (n := 60) (Nat.le_of_ble_eq_true rfl) (Nat.le_of_ble_eq_true rfl) ?_
  exact W.vret hx hb hr (fun t ht hW => ⟨⟨(), rfl, trivial, a_n7, by rw [ht]; exact hP, va_K.moved hW.alike hK, hD⟩, hS.F ht⟩) hS.2.2 dX3_init_12
theorem iw_wsX3_forget_X3 : ∀ w ∈ wsX30, w ∈ wsX3_forget := fun _ h => List.mem_cons_of_mem _ (List.mem_append_right _ h)
abbrev rm_Log_forget : Room := { frames := 0, cells := 0, slots := 0, locals := 0 }
set_option maxHeartbeats 4000000 in
set_option maxRecDepth 100000 in
theorem c_f_Log_forget (l : Launch) (D : va_G) (cT : Nat → ClassId) (sz : Nat) (a_t a_moves : Nat) (k_first : Int32) (k_done : Int32) (k_undone : Int32) (k_done₉ : Int32) (k_undone₉ : Int32) (hf : f_Log_forget k_done k_undone = some (k_done₉, k_undone₉)) : Met l yX3_forget wsX3_forget rm_Log_forget (va_Pc [.ref a_t] (fun U => U.heap.size = sz ∧ va_P D vwCl [(a_t, .inr (3, [.ref a_moves, .int k_first, .int k_done, .int k_undone]))] U.heap ∧ va_K D vwCl (jT cT) U ∧ jNw U ∧ va_D (fun _ => True) [(a_t, .inr (3, [.ref a_moves, .int k_first, .int k_done, .int k_undone]))])) (va_Qv (fun _ : Unit => True) (fun (_ : Unit) t => va_P D vwCl [(a_t, .inr (3, [.ref a_moves, .int k_first, .int k_done₉, .int k_undone₉]))] t.heap ∧ va_K D vwCl (jT cT) t ∧ va_D (va_A [(a_t, .inr (3, [.ref a_moves, .int k_first, .int k_done, .int k_undone]))] sz) [(a_t, .inr (3, [.ref a_moves, .int k_first, .int k_done₉, .int k_undone₉]))]) (va_A [(a_t, .inr (3, [.ref a_moves, .int k_first, .int k_done, .int k_undone]))] sz)) 0 0 (va_A [(a_t, .inr (3, [.ref a_moves, .int k_first, .int k_done, .int k_undone]))] sz) := by
  refine Met.ofW (cc := cX3_forget) (maxL := 1) (ret := none) (by decide) rfl ?_
  intro p e s m args below meth c s₁ B hml hv
  obtain ⟨rfl, hsz, hP, hK, hN, hD0⟩ := hv
  have hx := B.exec
  have hb := B.bytes
  have hr := B.returns
  have hts := atoms_spec (ws := wsX3_forget) B.pre
  have hown : s.vm.findClass RX3 = some m.cls := findClass_of_methodNamed B.named
  have hlocks := B.notSynchronized
  subst hsz
  have hD := hD0.self (sz := s.heap.size)
  clear hD0
  generalize hAe : va_A [(a_t, .inr (3, [.ref a_moves, .int k_first, .int k_done, .int k_undone]))] s.heap.size = A at hD ⊢
  have hA : ∀ q : Nat, s.heap.size ≤ q → A q := fun q h => by rw [← hAe]; exact Or.inr h
  clear hAe
  have hl := lv_entry ([.ref a_t]) (n := 1) (Nat.le_of_ble_eq_true rfl)
  rw [lg_entry_eq]
  generalize (lg_sl ([.ref a_t]) ++ List.replicate (1 - (lg_sl ([.ref a_t])).length) Slot.unset).toArray = ls at hl ⊢
  have hl : lv_has ls 1 [(0, .ref a_t)] := hl
  refine j_start (A := A) hP (fun H locs hP hS => ?_)
  unfold f_Log_forget at hf
  refine lv_aload_n hx hb dX3_forget_0 rfl (lv_at hl 0 rfl) ?_
  refine lv_iconst (v := 0) hx hb dX3_forget_1 (by decide) ?_
  refine va_put (D := D) (ci := 3) (v := .int ((0 : Int32))) (ty := .int) (C := RX3) (T := TX3) (N := 4) hx hb hts iw_wsX3_forget_X3 tyX3 tyX3_ok nmX3 hown hK hP hD hS 0 rfl rfl 2 (by decide) (hts (.fieldLink RX3 13 "BargeBasin$Log" "done" "I") (List.mem_of_getElem? (i := 1) (by decide +kernel))) (fun _ h9 => h9) rfl (by decide +kernel) rfl rfl (Nat.le_of_ble_eq_true rfl) dX3_forget_2 (fun H locs hP hD hS => ?_)
  replace hP : va_P D vwCl [(a_t, .inr (3, [.ref a_moves, .int k_first, .int ((0 : Int32)), .int k_undone]))] H := hP
  replace hD : va_D A [(a_t, .inr (3, [.ref a_moves, .int k_first, .int ((0 : Int32)), .int k_undone]))] := hD
  refine lv_aload_n hx hb dX3_forget_5 rfl (lv_at hl 0 rfl) ?_
  refine lv_iconst (v := 0) hx hb dX3_forget_6 (by decide) ?_
  refine va_put (D := D) (ci := 3) (v := .int ((0 : Int32))) (ty := .int) (C := RX3) (T := TX3) (N := 4) hx hb hts iw_wsX3_forget_X3 tyX3 tyX3_ok nmX3 hown hK hP hD hS 0 rfl rfl 3 (by decide) (hts (.fieldLink RX3 17 "BargeBasin$Log" "undone" "I") (List.mem_of_getElem? (i := 2) (by decide +kernel))) (fun _ h9 => h9) rfl (by decide +kernel) rfl rfl (Nat.le_of_ble_eq_true rfl) dX3_forget_7 (fun H locs hP hD hS => ?_)
  replace hP : va_P D vwCl [(a_t, .inr (3, [.ref a_moves, .int k_first, .int ((0 : Int32)), .int ((0 : Int32))]))] H := hP
  replace hD : va_D A [(a_t, .inr (3, [.ref a_moves, .int k_first, .int ((0 : Int32)), .int ((0 : Int32))]))] := hD
  replace hf := ob_t2 hf
  obtain ⟨ee0, ee1⟩ := hf
  subst ee0
  subst ee1
  exact W.vret hx hb hr (fun t ht hW => ⟨⟨(), rfl, trivial, by rw [ht]; exact hP, va_K.moved hW.alike hK, hD⟩, hS.F ht⟩) hS.2.2 dX3_forget_10
theorem iw_wsX3_note_X3 : ∀ w ∈ wsX30, w ∈ wsX3_note := fun _ h => List.mem_cons_of_mem _ (List.mem_append_right _ h)
abbrev rm_Log_note : Room := { frames := 0, cells := 0, slots := 0, locals := 0 }
set_option maxHeartbeats 4000000 in
set_option maxRecDepth 100000 in
theorem c_f_Log_note (l : Launch) (D : va_G) (cT : Nat → ClassId) (sz : Nat) (a_t a_moves : Nat) (k_first : Int32) (k_done : Int32) (k_undone : Int32) (k_moves : Nat → Int32) (v1 : Int32) (k_first₉ : Int32) (k_done₉ : Int32) (k_undone₉ : Int32) (k_moves₉ : Nat → Int32) (hf : f_Log_note v1 k_first k_done k_undone k_moves = some (k_first₉, k_done₉, k_undone₉, k_moves₉)) : Met l yX3_note wsX3_note rm_Log_note (va_Pc [.ref a_t, .int v1] (fun U => U.heap.size = sz ∧ va_P D vwCl [(a_t, .inr (3, [.ref a_moves, .int k_first, .int k_done, .int k_undone])), (a_moves, .inl (cT 0, 60, .inl k_moves))] U.heap ∧ va_K D vwCl (jT cT) U ∧ jNw U ∧ va_D (fun _ => True) [(a_t, .inr (3, [.ref a_moves, .int k_first, .int k_done, .int k_undone])), (a_moves, .inl (cT 0, 60, .inl k_moves))])) (va_Qv (fun _ : Unit => True) (fun (_ : Unit) t => va_P D vwCl [(a_t, .inr (3, [.ref a_moves, .int k_first₉, .int k_done₉, .int k_undone₉])), (a_moves, .inl (cT 0, 60, .inl k_moves₉))] t.heap ∧ va_K D vwCl (jT cT) t ∧ va_D (va_A [(a_t, .inr (3, [.ref a_moves, .int k_first, .int k_done, .int k_undone])), (a_moves, .inl (cT 0, 60, .inl k_moves))] sz) [(a_t, .inr (3, [.ref a_moves, .int k_first₉, .int k_done₉, .int k_undone₉])), (a_moves, .inl (cT 0, 60, .inl k_moves₉))]) (va_A [(a_t, .inr (3, [.ref a_moves, .int k_first, .int k_done, .int k_undone])), (a_moves, .inl (cT 0, 60, .inl k_moves))] sz)) 0 0 (va_A [(a_t, .inr (3, [.ref a_moves, .int k_first, .int k_done, .int k_undone])), (a_moves, .inl (cT 0, 60, .inl k_moves))] sz) := by
  refine Met.ofW (cc := cX3_note) (maxL := 2) (ret := none) (by decide) rfl ?_
  intro p e s m args below meth c s₁ B hml hv
  obtain ⟨rfl, hsz, hP, hK, hN, hD0⟩ := hv
  have hx := B.exec
  have hb := B.bytes
  have hr := B.returns
  have hts := atoms_spec (ws := wsX3_note) B.pre
  have hown : s.vm.findClass RX3 = some m.cls := findClass_of_methodNamed B.named
  have hlocks := B.notSynchronized
  subst hsz
  have hD := hD0.self (sz := s.heap.size)
  clear hD0
  generalize hAe : va_A [(a_t, .inr (3, [.ref a_moves, .int k_first, .int k_done, .int k_undone])), (a_moves, .inl (cT 0, 60, .inl k_moves))] s.heap.size = A at hD ⊢
  have hA : ∀ q : Nat, s.heap.size ≤ q → A q := fun q h => by rw [← hAe]; exact Or.inr h
  clear hAe
  have hl := lv_entry ([.ref a_t, .int v1]) (n := 2) (Nat.le_of_ble_eq_true rfl)
  rw [lg_entry_eq]
  generalize (lg_sl ([.ref a_t, .int v1]) ++ List.replicate (2 - (lg_sl ([.ref a_t, .int v1])).length) Slot.unset).toArray = ls at hl ⊢
  have hl : lv_has ls 2 [(0, .ref a_t), (1, .int v1)] := hl
  refine j_nameQ (fun Q hQ => ?_)
  have J37 : ∀ (k_first : Int32) (k_done : Int32) (k_undone : Int32) (k_moves : Nat → Int32), f_Log_note_J37 v1 k_first k_done k_undone k_moves = some (k_first₉, k_done₉, k_undone₉, k_moves₉) → ∀ (H : Heap) (locs : List Loc), va_P D vwCl [(a_t, .inr (3, [.ref a_moves, .int k_first, .int k_done, .int k_undone])), (a_moves, .inl (cT 0, 60, .inl k_moves))] H → va_D A [(a_t, .inr (3, [.ref a_moves, .int k_first, .int k_done, .int k_undone])), (a_moves, .inl (cT 0, 60, .inl k_moves))] → va_S A s.heap H locs → ∀ (ls : Array Slot), lv_has ls 2 [(0, .ref a_t), (1, .int v1)] → W p l e (headSpec wsX3_note rm_Log_note).room s m ([.ref a_t, .int v1] : List Value).toArray below meth c H locs 0 0 Q (F0 m 37 ls []) := by
    intro k_first k_done k_undone k_moves hf H locs hP hD hS ls hl
    unfold f_Log_note_J37 at hf
    refine lv_aload_n hx hb dX3_note_37 rfl (lv_at hl 0 rfl) ?_
    refine va_get (D := D) (ci := 3) (v := .ref a_moves) (C := RX3) (T := TX3) (N := 4) hx hb hts iw_wsX3_note_X3 hown hK hP 0 rfl rfl 0 (by decide) (hts (.fieldLink RX3 9 "BargeBasin$Log" "moves" "[I") (List.mem_of_getElem? (i := 4) (by decide +kernel))) (fun _ h9 => h9) rfl dX3_note_38 ?_
    refine lv_aload_n hx hb dX3_note_41 rfl (lv_at hl 0 rfl) ?_
    refine va_get (D := D) (ci := 3) (v := .int k_first) (C := RX3) (T := TX3) (N := 4) hx hb hts iw_wsX3_note_X3 hown hK hP 0 rfl rfl 1 (by decide) (hts (.fieldLink RX3 20 "BargeBasin$Log" "first" "I") (List.mem_of_getElem? (i := 3) (by decide +kernel))) (fun _ h9 => h9) rfl dX3_note_42 ?_
    refine lv_aload_n hx hb dX3_note_45 rfl (lv_at hl 0 rfl) ?_
    refine va_get (D := D) (ci := 3) (v := .int k_done) (C := RX3) (T := TX3) (N := 4) hx hb hts iw_wsX3_note_X3 hown hK hP 0 rfl rfl 2 (by decide) (hts (.fieldLink RX3 13 "BargeBasin$Log" "done" "I") (List.mem_of_getElem? (i := 2) (by decide +kernel))) (fun _ h9 => h9) rfl dX3_note_46 ?_
    refine lv_iadd hx hb dX3_note_49 ?_
    refine lv_bipush (v := 60) hx hb dX3_note_50 (by decide) ?_
    replace hf := ob_div hf
    obtain ⟨hd_2, hf⟩ := hf
    refine lv_irem hx hb dX3_note_52 hd_2 ?_
    refine lv_iload_n hx hb dX3_note_53 rfl (lv_at hl 1 rfl) ?_
    replace hf := ob_grd hf
    obtain ⟨hi_3, hf⟩ := hf
    refine va_iast hx hb hK hP hD hS 1 0 rfl rfl hi_3 dX3_note_54 (fun H locs hP hD hS => ?_)
    replace hP : va_P D vwCl [(a_t, .inr (3, [.ref a_moves, .int k_first, .int k_done, .int k_undone])), (a_moves, .inl (cT 0, 60, .inl (upd k_moves ((k_first + k_done) - (k_first + k_done) / ((60 : Int32)) * ((60 : Int32))).toNatClampNeg v1)))] H := hP
    replace hD : va_D A [(a_t, .inr (3, [.ref a_moves, .int k_first, .int k_done, .int k_undone])), (a_moves, .inl (cT 0, 60, .inl (upd k_moves ((k_first + k_done) - (k_first + k_done) / ((60 : Int32)) * ((60 : Int32))).toNatClampNeg v1)))] := hD
    refine lv_aload_n hx hb dX3_note_55 rfl (lv_at hl 0 rfl) ?_
    refine lv_dup hx hb dX3_note_56 rfl ?_
    refine va_get (D := D) (ci := 3) (v := .int k_done) (C := RX3) (T := TX3) (N := 4) hx hb hts iw_wsX3_note_X3 hown hK hP 0 rfl rfl 2 (by decide) (hts (.fieldLink RX3 13 "BargeBasin$Log" "done" "I") (List.mem_of_getElem? (i := 2) (by decide +kernel))) (fun _ h9 => h9) rfl dX3_note_57 ?_
    refine lv_iconst (v := 1) hx hb dX3_note_60 (by decide) ?_
    refine lv_iadd hx hb dX3_note_61 ?_
    refine lv_topi (fun w_4 ew_4 => ?_)
    replace hf := ob_nm ew_4 hf
    refine va_put (D := D) (ci := 3) (v := .int w_4) (ty := .int) (C := RX3) (T := TX3) (N := 4) hx hb hts iw_wsX3_note_X3 tyX3 tyX3_ok nmX3 hown hK hP hD hS 0 rfl rfl 2 (by decide) (hts (.fieldLink RX3 13 "BargeBasin$Log" "done" "I") (List.mem_of_getElem? (i := 2) (by decide +kernel))) (fun _ h9 => h9) rfl (by decide +kernel) rfl rfl (Nat.le_of_ble_eq_true rfl) dX3_note_62 (fun H locs hP hD hS => ?_)
    replace hP : va_P D vwCl [(a_t, .inr (3, [.ref a_moves, .int k_first, .int w_4, .int k_undone])), (a_moves, .inl (cT 0, 60, .inl (upd k_moves ((k_first + k_done) - (k_first + k_done) / ((60 : Int32)) * ((60 : Int32))).toNatClampNeg v1)))] H := hP
    replace hD : va_D A [(a_t, .inr (3, [.ref a_moves, .int k_first, .int w_4, .int k_undone])), (a_moves, .inl (cT 0, 60, .inl (upd k_moves ((k_first + k_done) - (k_first + k_done) / ((60 : Int32)) * ((60 : Int32))).toNatClampNeg v1)))] := hD
    replace hf := ob_t4 hf
    obtain ⟨ee0, ee1, ee2, ee3⟩ := hf
    subst ee0
    subst ee1
    subst ee2
    subst ee3
    subst hQ
    exact W.vret hx hb hr (fun t ht hW => ⟨⟨(), rfl, trivial, by rw [ht]; exact hP, va_K.moved hW.alike hK, hD⟩, hS.F ht⟩) hS.2.2 dX3_note_65
  refine j_start (A := A) hP (fun H locs hP hS => ?_)
  unfold f_Log_note at hf
  refine lv_aload_n hx hb dX3_note_0 rfl (lv_at hl 0 rfl) ?_
  refine lv_iconst (v := 0) hx hb dX3_note_1 (by decide) ?_
  refine va_put (D := D) (ci := 3) (v := .int ((0 : Int32))) (ty := .int) (C := RX3) (T := TX3) (N := 4) hx hb hts iw_wsX3_note_X3 tyX3 tyX3_ok nmX3 hown hK hP hD hS 0 rfl rfl 3 (by decide) (hts (.fieldLink RX3 17 "BargeBasin$Log" "undone" "I") (List.mem_of_getElem? (i := 1) (by decide +kernel))) (fun _ h9 => h9) rfl (by decide +kernel) rfl rfl (Nat.le_of_ble_eq_true rfl) dX3_note_2 (fun H locs hP hD hS => ?_)
  replace hP : va_P D vwCl [(a_t, .inr (3, [.ref a_moves, .int k_first, .int k_done, .int ((0 : Int32))])), (a_moves, .inl (cT 0, 60, .inl k_moves))] H := hP
  replace hD : va_D A [(a_t, .inr (3, [.ref a_moves, .int k_first, .int k_done, .int ((0 : Int32))])), (a_moves, .inl (cT 0, 60, .inl k_moves))] := hD
  refine lv_aload_n hx hb dX3_note_5 rfl (lv_at hl 0 rfl) ?_
  refine va_get (D := D) (ci := 3) (v := .int k_done) (C := RX3) (T := TX3) (N := 4) hx hb hts iw_wsX3_note_X3 hown hK hP 0 rfl rfl 2 (by decide) (hts (.fieldLink RX3 13 "BargeBasin$Log" "done" "I") (List.mem_of_getElem? (i := 2) (by decide +kernel))) (fun _ h9 => h9) rfl dX3_note_6 ?_
  refine lv_bipush (v := 60) hx hb dX3_note_9 (by decide) ?_
  refine lv_icmp_ne (tgt := 37) hx hb dX3_note_11 (by decide) (fun c_1 => ?_) (fun c_1 => ?_)
  · replace hf := ob_neg c_1 hf
    exact J37 _ _ _ _ hf _ _ hP hD hS ls (lv_sub hl [0, 1] rfl)
  · replace hf := ob_pos c_1 hf
    refine lv_aload_n hx hb dX3_note_14 rfl (lv_at hl 0 rfl) ?_
    refine lv_aload_n hx hb dX3_note_15 rfl (lv_at hl 0 rfl) ?_
    refine va_get (D := D) (ci := 3) (v := .int k_first) (C := RX3) (T := TX3) (N := 4) hx hb hts iw_wsX3_note_X3 hown hK hP 0 rfl rfl 1 (by decide) (hts (.fieldLink RX3 20 "BargeBasin$Log" "first" "I") (List.mem_of_getElem? (i := 3) (by decide +kernel))) (fun _ h9 => h9) rfl dX3_note_16 ?_
    refine lv_iconst (v := 1) hx hb dX3_note_19 (by decide) ?_
    refine lv_iadd hx hb dX3_note_20 ?_
    refine lv_bipush (v := 60) hx hb dX3_note_21 (by decide) ?_
    replace hf := ob_div hf
    obtain ⟨hd_5, hf⟩ := hf
    refine lv_irem hx hb dX3_note_23 hd_5 ?_
    refine lv_topi (fun w_6 ew_6 => ?_)
    replace hf := ob_nm ew_6 hf
    refine va_put (D := D) (ci := 3) (v := .int w_6) (ty := .int) (C := RX3) (T := TX3) (N := 4) hx hb hts iw_wsX3_note_X3 tyX3 tyX3_ok nmX3 hown hK hP hD hS 0 rfl rfl 1 (by decide) (hts (.fieldLink RX3 20 "BargeBasin$Log" "first" "I") (List.mem_of_getElem? (i := 3) (by decide +kernel))) (fun _ h9 => h9) rfl (by decide +kernel) rfl rfl (Nat.le_of_ble_eq_true rfl) dX3_note_24 (fun H locs hP hD hS => ?_)
    replace hP : va_P D vwCl [(a_t, .inr (3, [.ref a_moves, .int w_6, .int k_done, .int ((0 : Int32))])), (a_moves, .inl (cT 0, 60, .inl k_moves))] H := hP
    replace hD : va_D A [(a_t, .inr (3, [.ref a_moves, .int w_6, .int k_done, .int ((0 : Int32))])), (a_moves, .inl (cT 0, 60, .inl k_moves))] := hD
    refine lv_aload_n hx hb dX3_note_27 rfl (lv_at hl 0 rfl) ?_
    refine lv_dup hx hb dX3_note_28 rfl ?_
    refine va_get (D := D) (ci := 3) (v := .int k_done) (C := RX3) (T := TX3) (N := 4) hx hb hts iw_wsX3_note_X3 hown hK hP 0 rfl rfl 2 (by decide) (hts (.fieldLink RX3 13 "BargeBasin$Log" "done" "I") (List.mem_of_getElem? (i := 2) (by decide +kernel))) (fun _ h9 => h9) rfl dX3_note_29 ?_
    refine lv_iconst (v := 1) hx hb dX3_note_32 (by decide) ?_
    refine lv_isub hx hb dX3_note_33 ?_
    refine lv_topi (fun w_7 ew_7 => ?_)
    replace hf := ob_nm ew_7 hf
    refine va_put (D := D) (ci := 3) (v := .int w_7) (ty := .int) (C := RX3) (T := TX3) (N := 4) hx hb hts iw_wsX3_note_X3 tyX3 tyX3_ok nmX3 hown hK hP hD hS 0 rfl rfl 2 (by decide) (hts (.fieldLink RX3 13 "BargeBasin$Log" "done" "I") (List.mem_of_getElem? (i := 2) (by decide +kernel))) (fun _ h9 => h9) rfl (by decide +kernel) rfl rfl (Nat.le_of_ble_eq_true rfl) dX3_note_34 (fun H locs hP hD hS => ?_)
    replace hP : va_P D vwCl [(a_t, .inr (3, [.ref a_moves, .int w_6, .int w_7, .int ((0 : Int32))])), (a_moves, .inl (cT 0, 60, .inl k_moves))] H := hP
    replace hD : va_D A [(a_t, .inr (3, [.ref a_moves, .int w_6, .int w_7, .int ((0 : Int32))])), (a_moves, .inl (cT 0, 60, .inl k_moves))] := hD
    exact J37 _ _ _ _ hf _ _ hP hD hS ls (lv_sub hl [0, 1] rfl)
theorem iw_wsX3_back_X3 : ∀ w ∈ wsX30, w ∈ wsX3_back := fun _ h => List.mem_cons_of_mem _ (List.mem_append_right _ h)
abbrev rm_Log_back : Room := { frames := 0, cells := 0, slots := 0, locals := 0 }
set_option maxHeartbeats 4000000 in
set_option maxRecDepth 100000 in
theorem c_f_Log_back (l : Launch) (D : va_G) (cT : Nat → ClassId) (sz : Nat) (a_t a_moves : Nat) (k_first : Int32) (k_done : Int32) (k_undone : Int32) (k_moves : Nat → Int32) (r0 : Int32) (k_done₉ : Int32) (k_undone₉ : Int32) (hf : f_Log_back k_first k_done k_undone k_moves = some (r0, k_done₉, k_undone₉)) : Met l yX3_back wsX3_back rm_Log_back (va_Pc [.ref a_t] (fun U => U.heap.size = sz ∧ va_P D vwCl [(a_t, .inr (3, [.ref a_moves, .int k_first, .int k_done, .int k_undone])), (a_moves, .inl (cT 0, 60, .inl k_moves))] U.heap ∧ va_K D vwCl (jT cT) U ∧ jNw U ∧ va_D (fun _ => True) [(a_t, .inr (3, [.ref a_moves, .int k_first, .int k_done, .int k_undone])), (a_moves, .inl (cT 0, 60, .inl k_moves))])) (va_Qi (fun r (_ : Unit) => r = r0) (fun (_ : Unit) t => va_P D vwCl [(a_t, .inr (3, [.ref a_moves, .int k_first, .int k_done₉, .int k_undone₉])), (a_moves, .inl (cT 0, 60, .inl k_moves))] t.heap ∧ va_K D vwCl (jT cT) t ∧ va_D (va_A [(a_t, .inr (3, [.ref a_moves, .int k_first, .int k_done, .int k_undone])), (a_moves, .inl (cT 0, 60, .inl k_moves))] sz) [(a_t, .inr (3, [.ref a_moves, .int k_first, .int k_done₉, .int k_undone₉])), (a_moves, .inl (cT 0, 60, .inl k_moves))]) (va_A [(a_t, .inr (3, [.ref a_moves, .int k_first, .int k_done, .int k_undone])), (a_moves, .inl (cT 0, 60, .inl k_moves))] sz)) 0 0 (va_A [(a_t, .inr (3, [.ref a_moves, .int k_first, .int k_done, .int k_undone])), (a_moves, .inl (cT 0, 60, .inl k_moves))] sz) := by
  refine Met.ofW (cc := cX3_back) (maxL := 1) (ret := (some .int)) (by decide) rfl ?_
  intro p e s m args below meth c s₁ B hml hv
  obtain ⟨rfl, hsz, hP, hK, hN, hD0⟩ := hv
  have hx := B.exec
  have hb := B.bytes
  have hr := B.returns
  have hts := atoms_spec (ws := wsX3_back) B.pre
  have hown : s.vm.findClass RX3 = some m.cls := findClass_of_methodNamed B.named
  have hlocks := B.notSynchronized
  subst hsz
  have hD := hD0.self (sz := s.heap.size)
  clear hD0
  generalize hAe : va_A [(a_t, .inr (3, [.ref a_moves, .int k_first, .int k_done, .int k_undone])), (a_moves, .inl (cT 0, 60, .inl k_moves))] s.heap.size = A at hD ⊢
  have hA : ∀ q : Nat, s.heap.size ≤ q → A q := fun q h => by rw [← hAe]; exact Or.inr h
  clear hAe
  have hl := lv_entry ([.ref a_t]) (n := 1) (Nat.le_of_ble_eq_true rfl)
  rw [lg_entry_eq]
  generalize (lg_sl ([.ref a_t]) ++ List.replicate (1 - (lg_sl ([.ref a_t])).length) Slot.unset).toArray = ls at hl ⊢
  have hl : lv_has ls 1 [(0, .ref a_t)] := hl
  refine j_start (A := A) hP (fun H locs hP hS => ?_)
  unfold f_Log_back at hf
  refine lv_aload_n hx hb dX3_back_0 rfl (lv_at hl 0 rfl) ?_
  refine lv_dup hx hb dX3_back_1 rfl ?_
  refine va_get (D := D) (ci := 3) (v := .int k_done) (C := RX3) (T := TX3) (N := 4) hx hb hts iw_wsX3_back_X3 hown hK hP 0 rfl rfl 2 (by decide) (hts (.fieldLink RX3 13 "BargeBasin$Log" "done" "I") (List.mem_of_getElem? (i := 1) (by decide +kernel))) (fun _ h9 => h9) rfl dX3_back_2 ?_
  refine lv_iconst (v := 1) hx hb dX3_back_5 (by decide) ?_
  refine lv_isub hx hb dX3_back_6 ?_
  refine lv_topi (fun w_1 ew_1 => ?_)
  replace hf := ob_nm ew_1 hf
  refine va_put (D := D) (ci := 3) (v := .int w_1) (ty := .int) (C := RX3) (T := TX3) (N := 4) hx hb hts iw_wsX3_back_X3 tyX3 tyX3_ok nmX3 hown hK hP hD hS 0 rfl rfl 2 (by decide) (hts (.fieldLink RX3 13 "BargeBasin$Log" "done" "I") (List.mem_of_getElem? (i := 1) (by decide +kernel))) (fun _ h9 => h9) rfl (by decide +kernel) rfl rfl (Nat.le_of_ble_eq_true rfl) dX3_back_7 (fun H locs hP hD hS => ?_)
  replace hP : va_P D vwCl [(a_t, .inr (3, [.ref a_moves, .int k_first, .int w_1, .int k_undone])), (a_moves, .inl (cT 0, 60, .inl k_moves))] H := hP
  replace hD : va_D A [(a_t, .inr (3, [.ref a_moves, .int k_first, .int w_1, .int k_undone])), (a_moves, .inl (cT 0, 60, .inl k_moves))] := hD
  refine lv_aload_n hx hb dX3_back_10 rfl (lv_at hl 0 rfl) ?_
  refine lv_dup hx hb dX3_back_11 rfl ?_
  refine va_get (D := D) (ci := 3) (v := .int k_undone) (C := RX3) (T := TX3) (N := 4) hx hb hts iw_wsX3_back_X3 hown hK hP 0 rfl rfl 3 (by decide) (hts (.fieldLink RX3 17 "BargeBasin$Log" "undone" "I") (List.mem_of_getElem? (i := 2) (by decide +kernel))) (fun _ h9 => h9) rfl dX3_back_12 ?_
  refine lv_iconst (v := 1) hx hb dX3_back_15 (by decide) ?_
  refine lv_iadd hx hb dX3_back_16 ?_
  refine lv_topi (fun w_2 ew_2 => ?_)
  replace hf := ob_nm ew_2 hf
  refine va_put (D := D) (ci := 3) (v := .int w_2) (ty := .int) (C := RX3) (T := TX3) (N := 4) hx hb hts iw_wsX3_back_X3 tyX3 tyX3_ok nmX3 hown hK hP hD hS 0 rfl rfl 3 (by decide) (hts (.fieldLink RX3 17 "BargeBasin$Log" "undone" "I") (List.mem_of_getElem? (i := 2) (by decide +kernel))) (fun _ h9 => h9) rfl (by decide +kernel) rfl rfl (Nat.le_of_ble_eq_true rfl) dX3_back_17 (fun H locs hP hD hS => ?_)
  replace hP : va_P D vwCl [(a_t, .inr (3, [.ref a_moves, .int k_first, .int w_1, .int w_2])), (a_moves, .inl (cT 0, 60, .inl k_moves))] H := hP
  replace hD : va_D A [(a_t, .inr (3, [.ref a_moves, .int k_first, .int w_1, .int w_2])), (a_moves, .inl (cT 0, 60, .inl k_moves))] := hD
  refine lv_aload_n hx hb dX3_back_20 rfl (lv_at hl 0 rfl) ?_
  refine va_get (D := D) (ci := 3) (v := .ref a_moves) (C := RX3) (T := TX3) (N := 4) hx hb hts iw_wsX3_back_X3 hown hK hP 0 rfl rfl 0 (by decide) (hts (.fieldLink RX3 9 "BargeBasin$Log" "moves" "[I") (List.mem_of_getElem? (i := 3) (by decide +kernel))) (fun _ h9 => h9) rfl dX3_back_21 ?_
  refine lv_aload_n hx hb dX3_back_24 rfl (lv_at hl 0 rfl) ?_
  refine va_get (D := D) (ci := 3) (v := .int k_first) (C := RX3) (T := TX3) (N := 4) hx hb hts iw_wsX3_back_X3 hown hK hP 0 rfl rfl 1 (by decide) (hts (.fieldLink RX3 20 "BargeBasin$Log" "first" "I") (List.mem_of_getElem? (i := 4) (by decide +kernel))) (fun _ h9 => h9) rfl dX3_back_25 ?_
  refine lv_aload_n hx hb dX3_back_28 rfl (lv_at hl 0 rfl) ?_
  refine va_get (D := D) (ci := 3) (v := .int w_1) (C := RX3) (T := TX3) (N := 4) hx hb hts iw_wsX3_back_X3 hown hK hP 0 rfl rfl 2 (by decide) (hts (.fieldLink RX3 13 "BargeBasin$Log" "done" "I") (List.mem_of_getElem? (i := 1) (by decide +kernel))) (fun _ h9 => h9) rfl dX3_back_29 ?_
  refine lv_iadd hx hb dX3_back_32 ?_
  refine lv_bipush (v := 60) hx hb dX3_back_33 (by decide) ?_
  replace hf := ob_div hf
  obtain ⟨hd_3, hf⟩ := hf
  refine lv_irem hx hb dX3_back_35 hd_3 ?_
  replace hf := ob_grd hf
  obtain ⟨hi_4, hf⟩ := hf
  refine va_iald hx hb hK hP 1 0 rfl rfl hi_4 dX3_back_36 ?_
  replace hf := ob_t3 hf
  obtain ⟨ee0, ee1, ee2⟩ := hf
  subst ee0
  subst ee1
  subst ee2
  exact W.iret hx hb hr (fun t ht hW => ⟨⟨_, (), rfl, rfl, by rw [ht]; exact hP, va_K.moved hW.alike hK, hD⟩, hS.F ht⟩) hS.2.2 dX3_back_37
theorem iw_wsX3_forth_X3 : ∀ w ∈ wsX30, w ∈ wsX3_forth := fun _ h => List.mem_cons_of_mem _ (List.mem_append_right _ h)
abbrev rm_Log_forth : Room := { frames := 0, cells := 0, slots := 0, locals := 0 }
set_option maxHeartbeats 4000000 in
set_option maxRecDepth 100000 in
theorem c_f_Log_forth (l : Launch) (D : va_G) (cT : Nat → ClassId) (sz : Nat) (a_t a_moves : Nat) (k_first : Int32) (k_done : Int32) (k_undone : Int32) (k_moves : Nat → Int32) (r0 : Int32) (k_done₉ : Int32) (k_undone₉ : Int32) (hf : f_Log_forth k_first k_done k_undone k_moves = some (r0, k_done₉, k_undone₉)) : Met l yX3_forth wsX3_forth rm_Log_forth (va_Pc [.ref a_t] (fun U => U.heap.size = sz ∧ va_P D vwCl [(a_t, .inr (3, [.ref a_moves, .int k_first, .int k_done, .int k_undone])), (a_moves, .inl (cT 0, 60, .inl k_moves))] U.heap ∧ va_K D vwCl (jT cT) U ∧ jNw U ∧ va_D (fun _ => True) [(a_t, .inr (3, [.ref a_moves, .int k_first, .int k_done, .int k_undone])), (a_moves, .inl (cT 0, 60, .inl k_moves))])) (va_Qi (fun r (_ : Unit) => r = r0) (fun (_ : Unit) t => va_P D vwCl [(a_t, .inr (3, [.ref a_moves, .int k_first, .int k_done₉, .int k_undone₉])), (a_moves, .inl (cT 0, 60, .inl k_moves))] t.heap ∧ va_K D vwCl (jT cT) t ∧ va_D (va_A [(a_t, .inr (3, [.ref a_moves, .int k_first, .int k_done, .int k_undone])), (a_moves, .inl (cT 0, 60, .inl k_moves))] sz) [(a_t, .inr (3, [.ref a_moves, .int k_first, .int k_done₉, .int k_undone₉])), (a_moves, .inl (cT 0, 60, .inl k_moves))]) (va_A [(a_t, .inr (3, [.ref a_moves, .int k_first, .int k_done, .int k_undone])), (a_moves, .inl (cT 0, 60, .inl k_moves))] sz)) 0 0 (va_A [(a_t, .inr (3, [.ref a_moves, .int k_first, .int k_done, .int k_undone])), (a_moves, .inl (cT 0, 60, .inl k_moves))] sz) := by
  refine Met.ofW (cc := cX3_forth) (maxL := 2) (ret := (some .int)) (by decide) rfl ?_
  intro p e s m args below meth c s₁ B hml hv
  obtain ⟨rfl, hsz, hP, hK, hN, hD0⟩ := hv
  have hx := B.exec
  have hb := B.bytes
  have hr := B.returns
  have hts := atoms_spec (ws := wsX3_forth) B.pre
  have hown : s.vm.findClass RX3 = some m.cls := findClass_of_methodNamed B.named
  have hlocks := B.notSynchronized
  subst hsz
  have hD := hD0.self (sz := s.heap.size)
  clear hD0
  generalize hAe : va_A [(a_t, .inr (3, [.ref a_moves, .int k_first, .int k_done, .int k_undone])), (a_moves, .inl (cT 0, 60, .inl k_moves))] s.heap.size = A at hD ⊢
  have hA : ∀ q : Nat, s.heap.size ≤ q → A q := fun q h => by rw [← hAe]; exact Or.inr h
  clear hAe
  have hl := lv_entry ([.ref a_t]) (n := 2) (Nat.le_of_ble_eq_true rfl)
  rw [lg_entry_eq]
  generalize (lg_sl ([.ref a_t]) ++ List.replicate (2 - (lg_sl ([.ref a_t])).length) Slot.unset).toArray = ls at hl ⊢
  have hl : lv_has ls 2 [(0, .ref a_t)] := hl
  refine j_start (A := A) hP (fun H locs hP hS => ?_)
  unfold f_Log_forth at hf
  refine lv_aload_n hx hb dX3_forth_0 rfl (lv_at hl 0 rfl) ?_
  refine va_get (D := D) (ci := 3) (v := .ref a_moves) (C := RX3) (T := TX3) (N := 4) hx hb hts iw_wsX3_forth_X3 hown hK hP 0 rfl rfl 0 (by decide) (hts (.fieldLink RX3 9 "BargeBasin$Log" "moves" "[I") (List.mem_of_getElem? (i := 1) (by decide +kernel))) (fun _ h9 => h9) rfl dX3_forth_1 ?_
  refine lv_aload_n hx hb dX3_forth_4 rfl (lv_at hl 0 rfl) ?_
  refine va_get (D := D) (ci := 3) (v := .int k_first) (C := RX3) (T := TX3) (N := 4) hx hb hts iw_wsX3_forth_X3 hown hK hP 0 rfl rfl 1 (by decide) (hts (.fieldLink RX3 20 "BargeBasin$Log" "first" "I") (List.mem_of_getElem? (i := 2) (by decide +kernel))) (fun _ h9 => h9) rfl dX3_forth_5 ?_
  refine lv_aload_n hx hb dX3_forth_8 rfl (lv_at hl 0 rfl) ?_
  refine va_get (D := D) (ci := 3) (v := .int k_done) (C := RX3) (T := TX3) (N := 4) hx hb hts iw_wsX3_forth_X3 hown hK hP 0 rfl rfl 2 (by decide) (hts (.fieldLink RX3 13 "BargeBasin$Log" "done" "I") (List.mem_of_getElem? (i := 3) (by decide +kernel))) (fun _ h9 => h9) rfl dX3_forth_9 ?_
  refine lv_iadd hx hb dX3_forth_12 ?_
  refine lv_bipush (v := 60) hx hb dX3_forth_13 (by decide) ?_
  replace hf := ob_div hf
  obtain ⟨hd_1, hf⟩ := hf
  refine lv_irem hx hb dX3_forth_15 hd_1 ?_
  replace hf := ob_grd hf
  obtain ⟨hi_2, hf⟩ := hf
  refine va_iald hx hb hK hP 1 0 rfl rfl hi_2 dX3_forth_16 ?_
  refine lv_topi (fun v1_3 ev1_3 => ?_)
  replace hf := ob_nm ev1_3 hf
  refine lv_istore_n (lv' := [(1, .int v1_3), (0, .ref a_t)]) hx hb dX3_forth_17 rfl hl (by decide) rfl (fun ls hl => ?_)
  refine lv_aload_n hx hb dX3_forth_18 rfl (lv_at hl 1 rfl) ?_
  refine lv_dup hx hb dX3_forth_19 rfl ?_
  refine va_get (D := D) (ci := 3) (v := .int k_done) (C := RX3) (T := TX3) (N := 4) hx hb hts iw_wsX3_forth_X3 hown hK hP 0 rfl rfl 2 (by decide) (hts (.fieldLink RX3 13 "BargeBasin$Log" "done" "I") (List.mem_of_getElem? (i := 3) (by decide +kernel))) (fun _ h9 => h9) rfl dX3_forth_20 ?_
  refine lv_iconst (v := 1) hx hb dX3_forth_23 (by decide) ?_
  refine lv_iadd hx hb dX3_forth_24 ?_
  refine lv_topi (fun w_4 ew_4 => ?_)
  replace hf := ob_nm ew_4 hf
  refine va_put (D := D) (ci := 3) (v := .int w_4) (ty := .int) (C := RX3) (T := TX3) (N := 4) hx hb hts iw_wsX3_forth_X3 tyX3 tyX3_ok nmX3 hown hK hP hD hS 0 rfl rfl 2 (by decide) (hts (.fieldLink RX3 13 "BargeBasin$Log" "done" "I") (List.mem_of_getElem? (i := 3) (by decide +kernel))) (fun _ h9 => h9) rfl (by decide +kernel) rfl rfl (Nat.le_of_ble_eq_true rfl) dX3_forth_25 (fun H locs hP hD hS => ?_)
  replace hP : va_P D vwCl [(a_t, .inr (3, [.ref a_moves, .int k_first, .int w_4, .int k_undone])), (a_moves, .inl (cT 0, 60, .inl k_moves))] H := hP
  replace hD : va_D A [(a_t, .inr (3, [.ref a_moves, .int k_first, .int w_4, .int k_undone])), (a_moves, .inl (cT 0, 60, .inl k_moves))] := hD
  refine lv_aload_n hx hb dX3_forth_28 rfl (lv_at hl 1 rfl) ?_
  refine lv_dup hx hb dX3_forth_29 rfl ?_
  refine va_get (D := D) (ci := 3) (v := .int k_undone) (C := RX3) (T := TX3) (N := 4) hx hb hts iw_wsX3_forth_X3 hown hK hP 0 rfl rfl 3 (by decide) (hts (.fieldLink RX3 17 "BargeBasin$Log" "undone" "I") (List.mem_of_getElem? (i := 4) (by decide +kernel))) (fun _ h9 => h9) rfl dX3_forth_30 ?_
  refine lv_iconst (v := 1) hx hb dX3_forth_33 (by decide) ?_
  refine lv_isub hx hb dX3_forth_34 ?_
  refine lv_topi (fun w_5 ew_5 => ?_)
  replace hf := ob_nm ew_5 hf
  refine va_put (D := D) (ci := 3) (v := .int w_5) (ty := .int) (C := RX3) (T := TX3) (N := 4) hx hb hts iw_wsX3_forth_X3 tyX3 tyX3_ok nmX3 hown hK hP hD hS 0 rfl rfl 3 (by decide) (hts (.fieldLink RX3 17 "BargeBasin$Log" "undone" "I") (List.mem_of_getElem? (i := 4) (by decide +kernel))) (fun _ h9 => h9) rfl (by decide +kernel) rfl rfl (Nat.le_of_ble_eq_true rfl) dX3_forth_35 (fun H locs hP hD hS => ?_)
  replace hP : va_P D vwCl [(a_t, .inr (3, [.ref a_moves, .int k_first, .int w_4, .int w_5])), (a_moves, .inl (cT 0, 60, .inl k_moves))] H := hP
  replace hD : va_D A [(a_t, .inr (3, [.ref a_moves, .int k_first, .int w_4, .int w_5])), (a_moves, .inl (cT 0, 60, .inl k_moves))] := hD
  refine lv_iload_n hx hb dX3_forth_38 rfl (lv_at hl 0 rfl) ?_
  replace hf := ob_t3 hf
  obtain ⟨ee0, ee1, ee2⟩ := hf
  subst ee0
  subst ee1
  subst ee2
  exact W.iret hx hb hr (fun t ht hW => ⟨⟨_, (), rfl, rfl, by rw [ht]; exact hP, va_K.moved hW.alike hK, hD⟩, hS.F ht⟩) hS.2.2 dX3_forth_39
theorem iw_wsX4_init_X4 : ∀ w ∈ wsX40, w ∈ wsX4_init := fun _ h => List.mem_cons_of_mem _ (List.mem_append_right _ h)
abbrev rm_Plan_init : Room := { frames := 1, cells := 1, slots := 6000, locals := 12 }
set_option maxHeartbeats 4000000 in
set_option maxRecDepth 100000 in
theorem c_f_Plan_init (l : Launch) (D : va_G) (cT : Nat → ClassId) (sz : Nat) (a_t : Nat) (k_size : Int32) (hf : f_Plan_init  = some ()) : Met l yX4_init wsX4_init rm_Plan_init (va_Pc [.ref a_t] (fun U => U.heap.size = sz ∧ va_P D vwCl [(a_t, .inr (4, [.null, .int k_size]))] U.heap ∧ va_K D vwCl (jT cT) U ∧ jNw U ∧ va_D (fun _ => True) [(a_t, .inr (4, [.null, .int k_size]))])) (va_Qv (fun _ : Unit => True) (fun (_ : Unit) t => ∃ (a_moves : Nat), va_P D vwCl [(a_t, .inr (4, [.ref a_moves, .int k_size])), (a_moves, .inl (cT 0, 6000, .inl (fun _ => (0 : Int32))))] t.heap ∧ va_K D vwCl (jT cT) t ∧ va_D (va_A [(a_t, .inr (4, [.null, .int k_size]))] sz) [(a_t, .inr (4, [.ref a_moves, .int k_size])), (a_moves, .inl (cT 0, 6000, .inl (fun _ => (0 : Int32))))]) (va_A [(a_t, .inr (4, [.null, .int k_size]))] sz)) 1 6000 (va_A [(a_t, .inr (4, [.null, .int k_size]))] sz) := by
  refine Met.ofW (cc := cX4_init) (maxL := 1) (ret := none) (by decide) rfl ?_
  intro p e s m args below meth c s₁ B hml hv
  obtain ⟨rfl, hsz, hP, hK, hN, hD0⟩ := hv
  have hx := B.exec
  have hb := B.bytes
  have hr := B.returns
  have hts := atoms_spec (ws := wsX4_init) B.pre
  have hown : s.vm.findClass RX4 = some m.cls := findClass_of_methodNamed B.named
  have hlocks := B.notSynchronized
  have hin : meth.name = "<init>" := (name_of_methodNamed B.named B.method).1
  subst hsz
  have hD := hD0.self (sz := s.heap.size)
  clear hD0
  generalize hAe : va_A [(a_t, .inr (4, [.null, .int k_size]))] s.heap.size = A at hD ⊢
  have hA : ∀ q : Nat, s.heap.size ≤ q → A q := fun q h => by rw [← hAe]; exact Or.inr h
  clear hAe
  have hl := lv_entry ([.ref a_t]) (n := 1) (Nat.le_of_ble_eq_true rfl)
  rw [lg_entry_eq]
  generalize (lg_sl ([.ref a_t]) ++ List.replicate (1 - (lg_sl ([.ref a_t])).length) Slot.unset).toArray = ls at hl ⊢
  have hl : lv_has ls 1 [(0, .ref a_t)] := hl
  refine j_start (A := A) hP (fun H locs hP hS => ?_)
  unfold f_Plan_init at hf
  refine lv_aload_n hx hb dX4_init_0 rfl (lv_at hl 0 rfl) ?_
  refine W.objInit hx hb hown (hts (.methodLink RX4 1 objectInit) (List.mem_of_getElem? (i := 1) (by decide +kernel))) (hts (.instanceMethod objectInit) (List.mem_of_getElem? (i := 2) (by decide +kernel))) (hts _ (by decide +kernel)) rfl (by rw [hml]; exact hl.1) rfl dX4_init_1 (Nat.le_of_ble_eq_true rfl) (Nat.le_of_ble_eq_true rfl) ?_
  refine W.eq (g2 := F0 m 4 ls []) rfl ?_
  refine lv_aload_n hx hb dX4_init_4 rfl (lv_at hl 0 rfl) ?_
  refine lv_sipush (v := 6000) hx hb dX4_init_5 (by decide) ?_
  refine jnewa (atype := .int) (t0 := 0) (ty := .int) (N2 := 6000) (a0 := (6000, .inl (fun _ => 0))) hx hb (hts (.arrayClass .int) (List.mem_of_getElem? (i := 4) (by decide +kernel))) rfl hK hP hD hS hA rfl (fun _ => rfl) (by decide) (by decide) (by decide) (Nat.le_of_ble_eq_true rfl) (Nat.le_of_ble_eq_true rfl) dX4_init_8 (fun a_n8 H hP hD hS => ?_)
  replace hP : va_P D vwCl [(a_t, .inr (4, [.null, .int k_size])), (a_n8, .inl (cT 0, 6000, .inl (fun _ => (0 : Int32))))] H := hP
  replace hD : va_D A [(a_t, .inr (4, [.null, .int k_size])), (a_n8, .inl (cT 0, 6000, .inl (fun _ => (0 : Int32))))] := hD
  refine W.widen (k := 1) (n := 6000) (Nat.le_of_ble_eq_true rfl) (Nat.le_of_ble_eq_true rfl) ?_
  refine va_putF (D := D) (ci := 4) (v := .ref a_n8) (ty := (.array .int)) (C := RX4) (T := TX4) (N := 2) hx hb hts iw_wsX4_init_X4 tyX4 tyX4_ok nmX4 hown hK hP hD hS 0 rfl rfl 0 (by decide) (hts (.fieldLink RX4 9 "BargeBasin$Plan" "moves" "[I") (List.mem_of_getElem? (i := 5) (by decide +kernel))) (fun _ h9 => h9) rfl hin rfl (by decide +kernel) rfl rfl (Nat.le_of_ble_eq_true rfl) dX4_init_10 (fun H locs hP hD hS => ?_)
  replace hP : va_P D vwCl [(a_t, .inr (4, [.ref a_n8, .int k_size])), (a_n8, .inl (cT 0, 6000, .inl (fun _ => (0 : Int32))))] H := hP
  replace hD : va_D A [(a_t, .inr (4, [.ref a_n8, .int k_size])), (a_n8, .inl (cT 0, 6000, .inl (fun _ => (0 : Int32))))] := hD
  cases hf
  refine W.widen (k := 1) (n := 6000) (Nat.le_of_ble_eq_true rfl) (Nat.le_of_ble_eq_true rfl) ?_
  exact W.vret hx hb hr (fun t ht hW => ⟨⟨(), rfl, trivial, a_n8, by rw [ht]; exact hP, va_K.moved hW.alike hK, hD⟩, hS.F ht⟩) hS.2.2 dX4_init_13
theorem iw_wsX4_add_X4 : ∀ w ∈ wsX40, w ∈ wsX4_add := fun _ h => List.mem_cons_of_mem _ (List.mem_append_right _ h)
abbrev rm_Plan_add : Room := { frames := 0, cells := 0, slots := 0, locals := 0 }
set_option maxHeartbeats 4000000 in
set_option maxRecDepth 100000 in
theorem c_f_Plan_add (l : Launch) (D : va_G) (cT : Nat → ClassId) (sz : Nat) (a_t a_moves : Nat) (k_size : Int32) (k_moves : Nat → Int32) (v1 : Int32) (k_size₉ : Int32) (k_moves₉ : Nat → Int32) (hf : f_Plan_add v1 k_size k_moves = some (k_size₉, k_moves₉)) : Met l yX4_add wsX4_add rm_Plan_add (va_Pc [.ref a_t, .int v1] (fun U => U.heap.size = sz ∧ va_P D vwCl [(a_t, .inr (4, [.ref a_moves, .int k_size])), (a_moves, .inl (cT 0, 6000, .inl k_moves))] U.heap ∧ va_K D vwCl (jT cT) U ∧ jNw U ∧ va_D (fun _ => True) [(a_t, .inr (4, [.ref a_moves, .int k_size])), (a_moves, .inl (cT 0, 6000, .inl k_moves))])) (va_Qv (fun _ : Unit => True) (fun (_ : Unit) t => va_P D vwCl [(a_t, .inr (4, [.ref a_moves, .int k_size₉])), (a_moves, .inl (cT 0, 6000, .inl k_moves₉))] t.heap ∧ va_K D vwCl (jT cT) t ∧ va_D (va_A [(a_t, .inr (4, [.ref a_moves, .int k_size])), (a_moves, .inl (cT 0, 6000, .inl k_moves))] sz) [(a_t, .inr (4, [.ref a_moves, .int k_size₉])), (a_moves, .inl (cT 0, 6000, .inl k_moves₉))]) (va_A [(a_t, .inr (4, [.ref a_moves, .int k_size])), (a_moves, .inl (cT 0, 6000, .inl k_moves))] sz)) 0 0 (va_A [(a_t, .inr (4, [.ref a_moves, .int k_size])), (a_moves, .inl (cT 0, 6000, .inl k_moves))] sz) := by
  refine Met.ofW (cc := cX4_add) (maxL := 2) (ret := none) (by decide) rfl ?_
  intro p e s m args below meth c s₁ B hml hv
  obtain ⟨rfl, hsz, hP, hK, hN, hD0⟩ := hv
  have hx := B.exec
  have hb := B.bytes
  have hr := B.returns
  have hts := atoms_spec (ws := wsX4_add) B.pre
  have hown : s.vm.findClass RX4 = some m.cls := findClass_of_methodNamed B.named
  have hlocks := B.notSynchronized
  subst hsz
  have hD := hD0.self (sz := s.heap.size)
  clear hD0
  generalize hAe : va_A [(a_t, .inr (4, [.ref a_moves, .int k_size])), (a_moves, .inl (cT 0, 6000, .inl k_moves))] s.heap.size = A at hD ⊢
  have hA : ∀ q : Nat, s.heap.size ≤ q → A q := fun q h => by rw [← hAe]; exact Or.inr h
  clear hAe
  have hl := lv_entry ([.ref a_t, .int v1]) (n := 2) (Nat.le_of_ble_eq_true rfl)
  rw [lg_entry_eq]
  generalize (lg_sl ([.ref a_t, .int v1]) ++ List.replicate (2 - (lg_sl ([.ref a_t, .int v1])).length) Slot.unset).toArray = ls at hl ⊢
  have hl : lv_has ls 2 [(0, .ref a_t), (1, .int v1)] := hl
  refine j_start (A := A) hP (fun H locs hP hS => ?_)
  unfold f_Plan_add at hf
  refine lv_aload_n hx hb dX4_add_0 rfl (lv_at hl 0 rfl) ?_
  refine va_get (D := D) (ci := 4) (v := .int k_size) (C := RX4) (T := TX4) (N := 2) hx hb hts iw_wsX4_add_X4 hown hK hP 0 rfl rfl 1 (by decide) (hts (.fieldLink RX4 15 "BargeBasin$Plan" "size" "I") (List.mem_of_getElem? (i := 1) (by decide +kernel))) (fun _ h9 => h9) rfl dX4_add_1 ?_
  refine lv_sipush (v := 6000) hx hb dX4_add_4 (by decide) ?_
  refine lv_icmp_ge (tgt := 30) hx hb dX4_add_7 (by decide) (fun c_1 => ?_) (fun c_1 => ?_)
  · replace hf := ob_pos c_1 hf
    replace hf := ob_t2 hf
    obtain ⟨ee0, ee1⟩ := hf
    subst ee0
    subst ee1
    exact W.vret hx hb hr (fun t ht hW => ⟨⟨(), rfl, trivial, by rw [ht]; exact hP, va_K.moved hW.alike hK, hD⟩, hS.F ht⟩) hS.2.2 dX4_add_30
  · replace hf := ob_neg c_1 hf
    refine lv_aload_n hx hb dX4_add_10 rfl (lv_at hl 0 rfl) ?_
    refine va_get (D := D) (ci := 4) (v := .ref a_moves) (C := RX4) (T := TX4) (N := 2) hx hb hts iw_wsX4_add_X4 hown hK hP 0 rfl rfl 0 (by decide) (hts (.fieldLink RX4 9 "BargeBasin$Plan" "moves" "[I") (List.mem_of_getElem? (i := 2) (by decide +kernel))) (fun _ h9 => h9) rfl dX4_add_11 ?_
    refine lv_aload_n hx hb dX4_add_14 rfl (lv_at hl 0 rfl) ?_
    refine va_get (D := D) (ci := 4) (v := .int k_size) (C := RX4) (T := TX4) (N := 2) hx hb hts iw_wsX4_add_X4 hown hK hP 0 rfl rfl 1 (by decide) (hts (.fieldLink RX4 15 "BargeBasin$Plan" "size" "I") (List.mem_of_getElem? (i := 1) (by decide +kernel))) (fun _ h9 => h9) rfl dX4_add_15 ?_
    refine lv_iload_n hx hb dX4_add_18 rfl (lv_at hl 1 rfl) ?_
    replace hf := ob_grd hf
    obtain ⟨hi_2, hf⟩ := hf
    refine va_iast hx hb hK hP hD hS 1 0 rfl rfl hi_2 dX4_add_19 (fun H locs hP hD hS => ?_)
    replace hP : va_P D vwCl [(a_t, .inr (4, [.ref a_moves, .int k_size])), (a_moves, .inl (cT 0, 6000, .inl (upd k_moves k_size.toNatClampNeg v1)))] H := hP
    replace hD : va_D A [(a_t, .inr (4, [.ref a_moves, .int k_size])), (a_moves, .inl (cT 0, 6000, .inl (upd k_moves k_size.toNatClampNeg v1)))] := hD
    refine lv_aload_n hx hb dX4_add_20 rfl (lv_at hl 0 rfl) ?_
    refine lv_dup hx hb dX4_add_21 rfl ?_
    refine va_get (D := D) (ci := 4) (v := .int k_size) (C := RX4) (T := TX4) (N := 2) hx hb hts iw_wsX4_add_X4 hown hK hP 0 rfl rfl 1 (by decide) (hts (.fieldLink RX4 15 "BargeBasin$Plan" "size" "I") (List.mem_of_getElem? (i := 1) (by decide +kernel))) (fun _ h9 => h9) rfl dX4_add_22 ?_
    refine lv_iconst (v := 1) hx hb dX4_add_25 (by decide) ?_
    refine lv_iadd hx hb dX4_add_26 ?_
    refine lv_topi (fun w_3 ew_3 => ?_)
    replace hf := ob_nm ew_3 hf
    refine va_put (D := D) (ci := 4) (v := .int w_3) (ty := .int) (C := RX4) (T := TX4) (N := 2) hx hb hts iw_wsX4_add_X4 tyX4 tyX4_ok nmX4 hown hK hP hD hS 0 rfl rfl 1 (by decide) (hts (.fieldLink RX4 15 "BargeBasin$Plan" "size" "I") (List.mem_of_getElem? (i := 1) (by decide +kernel))) (fun _ h9 => h9) rfl (by decide +kernel) rfl rfl (Nat.le_of_ble_eq_true rfl) dX4_add_27 (fun H locs hP hD hS => ?_)
    replace hP : va_P D vwCl [(a_t, .inr (4, [.ref a_moves, .int w_3])), (a_moves, .inl (cT 0, 6000, .inl (upd k_moves k_size.toNatClampNeg v1)))] H := hP
    replace hD : va_D A [(a_t, .inr (4, [.ref a_moves, .int w_3])), (a_moves, .inl (cT 0, 6000, .inl (upd k_moves k_size.toNatClampNeg v1)))] := hD
    replace hf := ob_t2 hf
    obtain ⟨ee0, ee1⟩ := hf
    subst ee0
    subst ee1
    exact W.vret hx hb hr (fun t ht hW => ⟨⟨(), rfl, trivial, by rw [ht]; exact hP, va_K.moved hW.alike hK, hD⟩, hS.F ht⟩) hS.2.2 dX4_add_30
