def jsn (l : va_W) (c : Nat × va_E) : va_W := l ++ [c]
theorem iw_wsX7_init_X7 : ∀ w ∈ wsX70, w ∈ wsX7_init := fun _ h => List.mem_cons_of_mem _ (List.mem_append_right _ h)
abbrev rm_BargeBasinModel_init : Room := { frames := 1, cells := 53, slots := 2181774, locals := 12 }
set_option maxHeartbeats 4000000 in
set_option maxRecDepth 100000 in
theorem mi_s0 {p : Program} {l : Launch} {e : Env} {s : State} {m : MethodId} {args : Array Value} {below : List Frame} {meth : Method} {c : Code} {Q : State → Prop} {A : Nat → Prop} {D : va_G} {cT : Nat → ClassId} {a_t : Nat} {ls : Array Slot} {H : Heap} {locs : List Loc} {pl : va_W} {fs : List Value} (hx : p.tables.exec = Jvm.exec) (hb : c.code = cX7_init) (hown : s.vm.findClass RX7 = some m.cls) (hts : ∀ w ∈ wsX7_init, w.before args s = true) (hK : va_K D vwCl (jT cT) s) (hA : ∀ q : Nat, s.heap.size ≤ q → A q) (hin : meth.name = "<init>") (hl : lv_has ls 1 [(0, .ref a_t)]) (hlen : fs.length = 72) (hP : va_P D vwCl ((a_t, .inr (7, fs)) :: pl) H) (hD : va_D A ((a_t, .inr (7, fs)) :: pl)) (hS : va_S A s.heap H locs) (K : ∀ (a_n7 a_n15 a_n23 a_n31 a_n39 a_n47 a_n55 a_n63 a_n71 : Nat) (H : Heap) (locs : List Loc), va_P D vwCl ((a_t, .inr (7, (((((((((fs.set 5 (.ref a_n7)).set 6 (.ref a_n15)).set 7 (.ref a_n23)).set 8 (.ref a_n31)).set 10 (.ref a_n39)).set 11 (.ref a_n47)).set 12 (.ref a_n55)).set 13 (.ref a_n63)).set 14 (.ref a_n71)))) :: (jsn (jsn (jsn (jsn (jsn (jsn (jsn (jsn (jsn pl (a_n7, .inl (cT 0, 8, .inl (fun _ => 0)))) (a_n15, .inl (cT 0, 8, .inl (fun _ => 0)))) (a_n23, .inl (cT 0, 64, .inl (fun _ => 0)))) (a_n31, .inl (cT 2, 64, .inl (fun _ => 0)))) (a_n39, .inl (cT 0, 12, .inl (fun _ => 0)))) (a_n47, .inl (cT 0, 12, .inl (fun _ => 0)))) (a_n55, .inl (cT 0, 12, .inl (fun _ => 0)))) (a_n63, .inl (cT 0, 12, .inl (fun _ => 0)))) (a_n71, .inl (cT 0, 12, .inl (fun _ => 0))))) H → va_D A ((a_t, .inr (7, (((((((((fs.set 5 (.ref a_n7)).set 6 (.ref a_n15)).set 7 (.ref a_n23)).set 8 (.ref a_n31)).set 10 (.ref a_n39)).set 11 (.ref a_n47)).set 12 (.ref a_n55)).set 13 (.ref a_n63)).set 14 (.ref a_n71)))) :: (jsn (jsn (jsn (jsn (jsn (jsn (jsn (jsn (jsn pl (a_n7, .inl (cT 0, 8, .inl (fun _ => 0)))) (a_n15, .inl (cT 0, 8, .inl (fun _ => 0)))) (a_n23, .inl (cT 0, 64, .inl (fun _ => 0)))) (a_n31, .inl (cT 2, 64, .inl (fun _ => 0)))) (a_n39, .inl (cT 0, 12, .inl (fun _ => 0)))) (a_n47, .inl (cT 0, 12, .inl (fun _ => 0)))) (a_n55, .inl (cT 0, 12, .inl (fun _ => 0)))) (a_n63, .inl (cT 0, 12, .inl (fun _ => 0)))) (a_n71, .inl (cT 0, 12, .inl (fun _ => 0))))) → va_S A s.heap H locs → W p l e (headSpec wsX7_init rm_BargeBasinModel_init).room s m args below meth c H locs 9 204 Q (F0 m 76 ls [])) : W p l e (headSpec wsX7_init rm_BargeBasinModel_init).room s m args below meth c H locs 0 0 Q (F0 m 4 ls []) := by
  refine lv_aload_n hx hb dX7_init_4 rfl (lv_at hl 0 rfl) ?_
  refine lv_bipush (v := 8) hx hb dX7_init_5 (by decide) ?_
  refine jnewa (atype := .int) (t0 := 0) (ty := .int) (N2 := 8) (a0 := (8, .inl (fun _ => 0))) hx hb (hts (.arrayClass .int) (List.mem_of_getElem? (i := 4) (by decide +kernel))) rfl hK hP hD hS hA rfl (fun _ => rfl) (by decide) (by decide) (by decide) (Nat.le_of_ble_eq_true rfl) (Nat.le_of_ble_eq_true rfl) dX7_init_7 (fun a_n7 H hP hD hS => ?_)
  replace hP : va_P D vwCl ((a_t, .inr (7, fs)) :: (jsn pl (a_n7, .inl (cT 0, 8, .inl (fun _ => 0))))) H := hP
  replace hD : va_D A ((a_t, .inr (7, fs)) :: (jsn pl (a_n7, .inl (cT 0, 8, .inl (fun _ => 0))))) := hD
  obtain ⟨pl0, epl0⟩ : ∃ z : va_W, z = jsn pl (a_n7, .inl (cT 0, 8, .inl (fun _ => 0))) := ⟨_, rfl⟩
  rw [← epl0] at hP hD
  refine W.widen (k := 1) (n := 8) (Nat.le_of_ble_eq_true rfl) (Nat.le_of_ble_eq_true rfl) ?_
  refine va_putF (D := D) (ci := 7) (v := .ref a_n7) (ty := (.array .int)) (C := RX7) (T := TX7) (N := 72) (fs := fs) hx hb hts iw_wsX7_init_X7 tyX7 tyX7_ok nmX7 hown hK hP hD hS 0 rfl rfl 5 (by decide) (hts (.fieldLink RX7 7 "BargeBasinModel" "lineSort" "[I") (List.mem_of_getElem? (i := 5) (by decide +kernel))) (fun _ h9 => h9) rfl hin rfl (by decide +kernel) rfl rfl (by rw [hlen]; decide) dX7_init_9 (fun H locs hP hD hS => ?_)
  replace hP : va_P D vwCl ((a_t, .inr (7, fs.set 5 (.ref a_n7))) :: pl0) H := hP
  replace hD : va_D A ((a_t, .inr (7, fs.set 5 (.ref a_n7))) :: pl0) := hD
  obtain ⟨fs0, efs0⟩ : ∃ z : List Value, z = fs.set 5 (.ref a_n7) := ⟨_, rfl⟩
  rw [← efs0] at hP hD
  have hlen0 : fs0.length = 72 := by rw [efs0, List.length_set]; exact hlen
  refine lv_aload_n hx hb dX7_init_12 rfl (lv_at hl 0 rfl) ?_
  refine lv_bipush (v := 8) hx hb dX7_init_13 (by decide) ?_
  refine jnewa (atype := .int) (t0 := 0) (ty := .int) (N2 := 8) (a0 := (8, .inl (fun _ => 0))) hx hb (hts (.arrayClass .int) (List.mem_of_getElem? (i := 4) (by decide +kernel))) rfl hK hP hD hS hA rfl (fun _ => rfl) (by decide) (by decide) (by decide) (Nat.le_of_ble_eq_true rfl) (Nat.le_of_ble_eq_true rfl) dX7_init_15 (fun a_n15 H hP hD hS => ?_)
  replace hP : va_P D vwCl ((a_t, .inr (7, fs0)) :: (jsn pl0 (a_n15, .inl (cT 0, 8, .inl (fun _ => 0))))) H := hP
  replace hD : va_D A ((a_t, .inr (7, fs0)) :: (jsn pl0 (a_n15, .inl (cT 0, 8, .inl (fun _ => 0))))) := hD
  obtain ⟨pl1, epl1⟩ : ∃ z : va_W, z = jsn pl0 (a_n15, .inl (cT 0, 8, .inl (fun _ => 0))) := ⟨_, rfl⟩
  rw [← epl1] at hP hD
  refine W.widen (k := 2) (n := 16) (Nat.le_of_ble_eq_true rfl) (Nat.le_of_ble_eq_true rfl) ?_
  refine va_putF (D := D) (ci := 7) (v := .ref a_n15) (ty := (.array .int)) (C := RX7) (T := TX7) (N := 72) (fs := fs0) hx hb hts iw_wsX7_init_X7 tyX7 tyX7_ok nmX7 hown hK hP hD hS 0 rfl rfl 6 (by decide) (hts (.fieldLink RX7 13 "BargeBasinModel" "lineMany" "[I") (List.mem_of_getElem? (i := 6) (by decide +kernel))) (fun _ h9 => h9) rfl hin rfl (by decide +kernel) rfl rfl (by rw [hlen0]; decide) dX7_init_17 (fun H locs hP hD hS => ?_)
  replace hP : va_P D vwCl ((a_t, .inr (7, fs0.set 6 (.ref a_n15))) :: pl1) H := hP
  replace hD : va_D A ((a_t, .inr (7, fs0.set 6 (.ref a_n15))) :: pl1) := hD
  obtain ⟨fs1, efs1⟩ : ∃ z : List Value, z = fs0.set 6 (.ref a_n15) := ⟨_, rfl⟩
  rw [← efs1] at hP hD
  have hlen1 : fs1.length = 72 := by rw [efs1, List.length_set]; exact hlen0
  refine lv_aload_n hx hb dX7_init_20 rfl (lv_at hl 0 rfl) ?_
  refine lv_bipush (v := 64) hx hb dX7_init_21 (by decide) ?_
  refine jnewa (atype := .int) (t0 := 0) (ty := .int) (N2 := 64) (a0 := (64, .inl (fun _ => 0))) hx hb (hts (.arrayClass .int) (List.mem_of_getElem? (i := 4) (by decide +kernel))) rfl hK hP hD hS hA rfl (fun _ => rfl) (by decide) (by decide) (by decide) (Nat.le_of_ble_eq_true rfl) (Nat.le_of_ble_eq_true rfl) dX7_init_23 (fun a_n23 H hP hD hS => ?_)
  replace hP : va_P D vwCl ((a_t, .inr (7, fs1)) :: (jsn pl1 (a_n23, .inl (cT 0, 64, .inl (fun _ => 0))))) H := hP
  replace hD : va_D A ((a_t, .inr (7, fs1)) :: (jsn pl1 (a_n23, .inl (cT 0, 64, .inl (fun _ => 0))))) := hD
  obtain ⟨pl2, epl2⟩ : ∃ z : va_W, z = jsn pl1 (a_n23, .inl (cT 0, 64, .inl (fun _ => 0))) := ⟨_, rfl⟩
  rw [← epl2] at hP hD
  refine W.widen (k := 3) (n := 80) (Nat.le_of_ble_eq_true rfl) (Nat.le_of_ble_eq_true rfl) ?_
  refine va_putF (D := D) (ci := 7) (v := .ref a_n23) (ty := (.array .int)) (C := RX7) (T := TX7) (N := 72) (fs := fs1) hx hb hts iw_wsX7_init_X7 tyX7 tyX7_ok nmX7 hown hK hP hD hS 0 rfl rfl 7 (by decide) (hts (.fieldLink RX7 16 "BargeBasinModel" "numbers" "[I") (List.mem_of_getElem? (i := 7) (by decide +kernel))) (fun _ h9 => h9) rfl hin rfl (by decide +kernel) rfl rfl (by rw [hlen1]; decide) dX7_init_25 (fun H locs hP hD hS => ?_)
  replace hP : va_P D vwCl ((a_t, .inr (7, fs1.set 7 (.ref a_n23))) :: pl2) H := hP
  replace hD : va_D A ((a_t, .inr (7, fs1.set 7 (.ref a_n23))) :: pl2) := hD
  obtain ⟨fs2, efs2⟩ : ∃ z : List Value, z = fs1.set 7 (.ref a_n23) := ⟨_, rfl⟩
  rw [← efs2] at hP hD
  have hlen2 : fs2.length = 72 := by rw [efs2, List.length_set]; exact hlen1
  refine lv_aload_n hx hb dX7_init_28 rfl (lv_at hl 0 rfl) ?_
  refine lv_bipush (v := 64) hx hb dX7_init_29 (by decide) ?_
  refine jnewa (atype := .boolean) (t0 := 2) (ty := .boolean) (N2 := 64) (a0 := (64, .inl (fun _ => 0))) hx hb (hts (.arrayClass .boolean) (List.mem_of_getElem? (i := 8) (by decide +kernel))) rfl hK hP hD hS hA rfl (fun _ => rfl) (by decide) (by decide) (by decide) (Nat.le_of_ble_eq_true rfl) (Nat.le_of_ble_eq_true rfl) dX7_init_31 (fun a_n31 H hP hD hS => ?_)
  replace hP : va_P D vwCl ((a_t, .inr (7, fs2)) :: (jsn pl2 (a_n31, .inl (cT 2, 64, .inl (fun _ => 0))))) H := hP
  replace hD : va_D A ((a_t, .inr (7, fs2)) :: (jsn pl2 (a_n31, .inl (cT 2, 64, .inl (fun _ => 0))))) := hD
  obtain ⟨pl3, epl3⟩ : ∃ z : va_W, z = jsn pl2 (a_n31, .inl (cT 2, 64, .inl (fun _ => 0))) := ⟨_, rfl⟩
  rw [← epl3] at hP hD
  refine W.widen (k := 4) (n := 144) (Nat.le_of_ble_eq_true rfl) (Nat.le_of_ble_eq_true rfl) ?_
  refine va_putF (D := D) (ci := 7) (v := .ref a_n31) (ty := (.array .boolean)) (C := RX7) (T := TX7) (N := 72) (fs := fs2) hx hb hts iw_wsX7_init_X7 tyX7 tyX7_ok nmX7 hown hK hP hD hS 0 rfl rfl 8 (by decide) (hts (.fieldLink RX7 19 "BargeBasinModel" "wall" "[Z") (List.mem_of_getElem? (i := 9) (by decide +kernel))) (fun _ h9 => h9) rfl hin rfl (by decide +kernel) rfl rfl (by rw [hlen2]; decide) dX7_init_33 (fun H locs hP hD hS => ?_)
  replace hP : va_P D vwCl ((a_t, .inr (7, fs2.set 8 (.ref a_n31))) :: pl3) H := hP
  replace hD : va_D A ((a_t, .inr (7, fs2.set 8 (.ref a_n31))) :: pl3) := hD
  obtain ⟨fs3, efs3⟩ : ∃ z : List Value, z = fs2.set 8 (.ref a_n31) := ⟨_, rfl⟩
  rw [← efs3] at hP hD
  have hlen3 : fs3.length = 72 := by rw [efs3, List.length_set]; exact hlen2
  refine lv_aload_n hx hb dX7_init_36 rfl (lv_at hl 0 rfl) ?_
  refine lv_bipush (v := 12) hx hb dX7_init_37 (by decide) ?_
  refine jnewa (atype := .int) (t0 := 0) (ty := .int) (N2 := 12) (a0 := (12, .inl (fun _ => 0))) hx hb (hts (.arrayClass .int) (List.mem_of_getElem? (i := 4) (by decide +kernel))) rfl hK hP hD hS hA rfl (fun _ => rfl) (by decide) (by decide) (by decide) (Nat.le_of_ble_eq_true rfl) (Nat.le_of_ble_eq_true rfl) dX7_init_39 (fun a_n39 H hP hD hS => ?_)
  replace hP : va_P D vwCl ((a_t, .inr (7, fs3)) :: (jsn pl3 (a_n39, .inl (cT 0, 12, .inl (fun _ => 0))))) H := hP
  replace hD : va_D A ((a_t, .inr (7, fs3)) :: (jsn pl3 (a_n39, .inl (cT 0, 12, .inl (fun _ => 0))))) := hD
  obtain ⟨pl4, epl4⟩ : ∃ z : va_W, z = jsn pl3 (a_n39, .inl (cT 0, 12, .inl (fun _ => 0))) := ⟨_, rfl⟩
  rw [← epl4] at hP hD
  refine W.widen (k := 5) (n := 156) (Nat.le_of_ble_eq_true rfl) (Nat.le_of_ble_eq_true rfl) ?_
  refine va_putF (D := D) (ci := 7) (v := .ref a_n39) (ty := (.array .int)) (C := RX7) (T := TX7) (N := 72) (fs := fs3) hx hb hts iw_wsX7_init_X7 tyX7 tyX7_ok nmX7 hown hK hP hD hS 0 rfl rfl 10 (by decide) (hts (.fieldLink RX7 23 "BargeBasinModel" "kind" "[I") (List.mem_of_getElem? (i := 10) (by decide +kernel))) (fun _ h9 => h9) rfl hin rfl (by decide +kernel) rfl rfl (by rw [hlen3]; decide) dX7_init_41 (fun H locs hP hD hS => ?_)
  replace hP : va_P D vwCl ((a_t, .inr (7, fs3.set 10 (.ref a_n39))) :: pl4) H := hP
  replace hD : va_D A ((a_t, .inr (7, fs3.set 10 (.ref a_n39))) :: pl4) := hD
  obtain ⟨fs4, efs4⟩ : ∃ z : List Value, z = fs3.set 10 (.ref a_n39) := ⟨_, rfl⟩
  rw [← efs4] at hP hD
  have hlen4 : fs4.length = 72 := by rw [efs4, List.length_set]; exact hlen3
  refine lv_aload_n hx hb dX7_init_44 rfl (lv_at hl 0 rfl) ?_
  refine lv_bipush (v := 12) hx hb dX7_init_45 (by decide) ?_
  refine jnewa (atype := .int) (t0 := 0) (ty := .int) (N2 := 12) (a0 := (12, .inl (fun _ => 0))) hx hb (hts (.arrayClass .int) (List.mem_of_getElem? (i := 4) (by decide +kernel))) rfl hK hP hD hS hA rfl (fun _ => rfl) (by decide) (by decide) (by decide) (Nat.le_of_ble_eq_true rfl) (Nat.le_of_ble_eq_true rfl) dX7_init_47 (fun a_n47 H hP hD hS => ?_)
  replace hP : va_P D vwCl ((a_t, .inr (7, fs4)) :: (jsn pl4 (a_n47, .inl (cT 0, 12, .inl (fun _ => 0))))) H := hP
  replace hD : va_D A ((a_t, .inr (7, fs4)) :: (jsn pl4 (a_n47, .inl (cT 0, 12, .inl (fun _ => 0))))) := hD
  obtain ⟨pl5, epl5⟩ : ∃ z : va_W, z = jsn pl4 (a_n47, .inl (cT 0, 12, .inl (fun _ => 0))) := ⟨_, rfl⟩
  rw [← epl5] at hP hD
  refine W.widen (k := 6) (n := 168) (Nat.le_of_ble_eq_true rfl) (Nat.le_of_ble_eq_true rfl) ?_
  refine va_putF (D := D) (ci := 7) (v := .ref a_n47) (ty := (.array .int)) (C := RX7) (T := TX7) (N := 72) (fs := fs4) hx hb hts iw_wsX7_init_X7 tyX7 tyX7_ok nmX7 hown hK hP hD hS 0 rfl rfl 11 (by decide) (hts (.fieldLink RX7 26 "BargeBasinModel" "at" "[I") (List.mem_of_getElem? (i := 11) (by decide +kernel))) (fun _ h9 => h9) rfl hin rfl (by decide +kernel) rfl rfl (by rw [hlen4]; decide) dX7_init_49 (fun H locs hP hD hS => ?_)
  replace hP : va_P D vwCl ((a_t, .inr (7, fs4.set 11 (.ref a_n47))) :: pl5) H := hP
  replace hD : va_D A ((a_t, .inr (7, fs4.set 11 (.ref a_n47))) :: pl5) := hD
  obtain ⟨fs5, efs5⟩ : ∃ z : List Value, z = fs4.set 11 (.ref a_n47) := ⟨_, rfl⟩
  rw [← efs5] at hP hD
  have hlen5 : fs5.length = 72 := by rw [efs5, List.length_set]; exact hlen4
  refine lv_aload_n hx hb dX7_init_52 rfl (lv_at hl 0 rfl) ?_
  refine lv_bipush (v := 12) hx hb dX7_init_53 (by decide) ?_
  refine jnewa (atype := .int) (t0 := 0) (ty := .int) (N2 := 12) (a0 := (12, .inl (fun _ => 0))) hx hb (hts (.arrayClass .int) (List.mem_of_getElem? (i := 4) (by decide +kernel))) rfl hK hP hD hS hA rfl (fun _ => rfl) (by decide) (by decide) (by decide) (Nat.le_of_ble_eq_true rfl) (Nat.le_of_ble_eq_true rfl) dX7_init_55 (fun a_n55 H hP hD hS => ?_)
  replace hP : va_P D vwCl ((a_t, .inr (7, fs5)) :: (jsn pl5 (a_n55, .inl (cT 0, 12, .inl (fun _ => 0))))) H := hP
  replace hD : va_D A ((a_t, .inr (7, fs5)) :: (jsn pl5 (a_n55, .inl (cT 0, 12, .inl (fun _ => 0))))) := hD
  obtain ⟨pl6, epl6⟩ : ∃ z : va_W, z = jsn pl5 (a_n55, .inl (cT 0, 12, .inl (fun _ => 0))) := ⟨_, rfl⟩
  rw [← epl6] at hP hD
  refine W.widen (k := 7) (n := 180) (Nat.le_of_ble_eq_true rfl) (Nat.le_of_ble_eq_true rfl) ?_
  refine va_putF (D := D) (ci := 7) (v := .ref a_n55) (ty := (.array .int)) (C := RX7) (T := TX7) (N := 72) (fs := fs5) hx hb hts iw_wsX7_init_X7 tyX7 tyX7_ok nmX7 hown hK hP hD hS 0 rfl rfl 12 (by decide) (hts (.fieldLink RX7 29 "BargeBasinModel" "size" "[I") (List.mem_of_getElem? (i := 12) (by decide +kernel))) (fun _ h9 => h9) rfl hin rfl (by decide +kernel) rfl rfl (by rw [hlen5]; decide) dX7_init_57 (fun H locs hP hD hS => ?_)
  replace hP : va_P D vwCl ((a_t, .inr (7, fs5.set 12 (.ref a_n55))) :: pl6) H := hP
  replace hD : va_D A ((a_t, .inr (7, fs5.set 12 (.ref a_n55))) :: pl6) := hD
  obtain ⟨fs6, efs6⟩ : ∃ z : List Value, z = fs5.set 12 (.ref a_n55) := ⟨_, rfl⟩
  rw [← efs6] at hP hD
  have hlen6 : fs6.length = 72 := by rw [efs6, List.length_set]; exact hlen5
  refine lv_aload_n hx hb dX7_init_60 rfl (lv_at hl 0 rfl) ?_
  refine lv_bipush (v := 12) hx hb dX7_init_61 (by decide) ?_
  refine jnewa (atype := .int) (t0 := 0) (ty := .int) (N2 := 12) (a0 := (12, .inl (fun _ => 0))) hx hb (hts (.arrayClass .int) (List.mem_of_getElem? (i := 4) (by decide +kernel))) rfl hK hP hD hS hA rfl (fun _ => rfl) (by decide) (by decide) (by decide) (Nat.le_of_ble_eq_true rfl) (Nat.le_of_ble_eq_true rfl) dX7_init_63 (fun a_n63 H hP hD hS => ?_)
  replace hP : va_P D vwCl ((a_t, .inr (7, fs6)) :: (jsn pl6 (a_n63, .inl (cT 0, 12, .inl (fun _ => 0))))) H := hP
  replace hD : va_D A ((a_t, .inr (7, fs6)) :: (jsn pl6 (a_n63, .inl (cT 0, 12, .inl (fun _ => 0))))) := hD
  obtain ⟨pl7, epl7⟩ : ∃ z : va_W, z = jsn pl6 (a_n63, .inl (cT 0, 12, .inl (fun _ => 0))) := ⟨_, rfl⟩
  rw [← epl7] at hP hD
  refine W.widen (k := 8) (n := 192) (Nat.le_of_ble_eq_true rfl) (Nat.le_of_ble_eq_true rfl) ?_
  refine va_putF (D := D) (ci := 7) (v := .ref a_n63) (ty := (.array .int)) (C := RX7) (T := TX7) (N := 72) (fs := fs6) hx hb hts iw_wsX7_init_X7 tyX7 tyX7_ok nmX7 hown hK hP hD hS 0 rfl rfl 13 (by decide) (hts (.fieldLink RX7 32 "BargeBasinModel" "way" "[I") (List.mem_of_getElem? (i := 13) (by decide +kernel))) (fun _ h9 => h9) rfl hin rfl (by decide +kernel) rfl rfl (by rw [hlen6]; decide) dX7_init_65 (fun H locs hP hD hS => ?_)
  replace hP : va_P D vwCl ((a_t, .inr (7, fs6.set 13 (.ref a_n63))) :: pl7) H := hP
  replace hD : va_D A ((a_t, .inr (7, fs6.set 13 (.ref a_n63))) :: pl7) := hD
  obtain ⟨fs7, efs7⟩ : ∃ z : List Value, z = fs6.set 13 (.ref a_n63) := ⟨_, rfl⟩
  rw [← efs7] at hP hD
  have hlen7 : fs7.length = 72 := by rw [efs7, List.length_set]; exact hlen6
  refine lv_aload_n hx hb dX7_init_68 rfl (lv_at hl 0 rfl) ?_
  refine lv_bipush (v := 12) hx hb dX7_init_69 (by decide) ?_
  refine jnewa (atype := .int) (t0 := 0) (ty := .int) (N2 := 12) (a0 := (12, .inl (fun _ => 0))) hx hb (hts (.arrayClass .int) (List.mem_of_getElem? (i := 4) (by decide +kernel))) rfl hK hP hD hS hA rfl (fun _ => rfl) (by decide) (by decide) (by decide) (Nat.le_of_ble_eq_true rfl) (Nat.le_of_ble_eq_true rfl) dX7_init_71 (fun a_n71 H hP hD hS => ?_)
  replace hP : va_P D vwCl ((a_t, .inr (7, fs7)) :: (jsn pl7 (a_n71, .inl (cT 0, 12, .inl (fun _ => 0))))) H := hP
  replace hD : va_D A ((a_t, .inr (7, fs7)) :: (jsn pl7 (a_n71, .inl (cT 0, 12, .inl (fun _ => 0))))) := hD
  obtain ⟨pl8, epl8⟩ : ∃ z : va_W, z = jsn pl7 (a_n71, .inl (cT 0, 12, .inl (fun _ => 0))) := ⟨_, rfl⟩
  rw [← epl8] at hP hD
  refine W.widen (k := 9) (n := 204) (Nat.le_of_ble_eq_true rfl) (Nat.le_of_ble_eq_true rfl) ?_
  refine va_putF (D := D) (ci := 7) (v := .ref a_n71) (ty := (.array .int)) (C := RX7) (T := TX7) (N := 72) (fs := fs7) hx hb hts iw_wsX7_init_X7 tyX7 tyX7_ok nmX7 hown hK hP hD hS 0 rfl rfl 14 (by decide) (hts (.fieldLink RX7 35 "BargeBasinModel" "gate" "[I") (List.mem_of_getElem? (i := 14) (by decide +kernel))) (fun _ h9 => h9) rfl hin rfl (by decide +kernel) rfl rfl (by rw [hlen7]; decide) dX7_init_73 (fun H locs hP hD hS => ?_)
  replace hP : va_P D vwCl ((a_t, .inr (7, fs7.set 14 (.ref a_n71))) :: pl8) H := hP
  replace hD : va_D A ((a_t, .inr (7, fs7.set 14 (.ref a_n71))) :: pl8) := hD
  obtain ⟨fs8, efs8⟩ : ∃ z : List Value, z = fs7.set 14 (.ref a_n71) := ⟨_, rfl⟩
  rw [← efs8] at hP hD
  have hlen8 : fs8.length = 72 := by rw [efs8, List.length_set]; exact hlen7
  subst epl8
  subst epl7
  subst epl6
  subst epl5
  subst epl4
  subst epl3
  subst epl2
  subst epl1
  subst epl0
  subst efs8
  subst efs7
  subst efs6
  subst efs5
  subst efs4
  subst efs3
  subst efs2
  subst efs1
  subst efs0
  exact K _ _ _ _ _ _ _ _ _ _ _ hP hD hS
set_option maxHeartbeats 4000000 in
set_option maxRecDepth 100000 in
theorem mi_s1 {p : Program} {l : Launch} {e : Env} {s : State} {m : MethodId} {args : Array Value} {below : List Frame} {meth : Method} {c : Code} {Q : State → Prop} {A : Nat → Prop} {D : va_G} {cT : Nat → ClassId} {a_t : Nat} {ls : Array Slot} {H : Heap} {locs : List Loc} {pl : va_W} {fs : List Value} (hx : p.tables.exec = Jvm.exec) (hb : c.code = cX7_init) (hown : s.vm.findClass RX7 = some m.cls) (hts : ∀ w ∈ wsX7_init, w.before args s = true) (hK : va_K D vwCl (jT cT) s) (hA : ∀ q : Nat, s.heap.size ≤ q → A q) (hin : meth.name = "<init>") (hl : lv_has ls 1 [(0, .ref a_t)]) (hlen : fs.length = 72) (hP : va_P D vwCl ((a_t, .inr (7, fs)) :: pl) H) (hD : va_D A ((a_t, .inr (7, fs)) :: pl)) (hS : va_S A s.heap H locs) (K : ∀ (a_n79 a_n87 a_n95 a_n103 a_n111 a_n119 : Nat) (H : Heap) (locs : List Loc), va_P D vwCl ((a_t, .inr (7, (((((((((fs.set 17 (.ref a_n79)).set 18 (.ref a_n87)).set 19 (.ref a_n95)).set 20 (.ref a_n103)).set 21 (.ref a_n111)).set 22 (.ref a_n119)).set 23 (.int (-1))).set 24 (.int (-1))).set 25 (.int (-1))))) :: (jsn (jsn (jsn (jsn (jsn (jsn pl (a_n79, .inl (cT 0, 60, .inl (fun _ => 0)))) (a_n87, .inl (cT 0, 60, .inl (fun _ => 0)))) (a_n95, .inl (cT 0, 60, .inl (fun _ => 0)))) (a_n103, .inl (cT 0, 60, .inl (fun _ => 0)))) (a_n111, .inl (cT 0, 60, .inl (fun _ => 0)))) (a_n119, .inl (cT 0, 60, .inl (fun _ => 0))))) H → va_D A ((a_t, .inr (7, (((((((((fs.set 17 (.ref a_n79)).set 18 (.ref a_n87)).set 19 (.ref a_n95)).set 20 (.ref a_n103)).set 21 (.ref a_n111)).set 22 (.ref a_n119)).set 23 (.int (-1))).set 24 (.int (-1))).set 25 (.int (-1))))) :: (jsn (jsn (jsn (jsn (jsn (jsn pl (a_n79, .inl (cT 0, 60, .inl (fun _ => 0)))) (a_n87, .inl (cT 0, 60, .inl (fun _ => 0)))) (a_n95, .inl (cT 0, 60, .inl (fun _ => 0)))) (a_n103, .inl (cT 0, 60, .inl (fun _ => 0)))) (a_n111, .inl (cT 0, 60, .inl (fun _ => 0)))) (a_n119, .inl (cT 0, 60, .inl (fun _ => 0))))) → va_S A s.heap H locs → W p l e (headSpec wsX7_init rm_BargeBasinModel_init).room s m args below meth c H locs 15 564 Q (F0 m 139 ls [])) : W p l e (headSpec wsX7_init rm_BargeBasinModel_init).room s m args below meth c H locs 9 204 Q (F0 m 76 ls []) := by
  refine lv_aload_n hx hb dX7_init_76 rfl (lv_at hl 0 rfl) ?_
  refine lv_bipush (v := 60) hx hb dX7_init_77 (by decide) ?_
  refine jnewa (atype := .int) (t0 := 0) (ty := .int) (N2 := 60) (a0 := (60, .inl (fun _ => 0))) hx hb (hts (.arrayClass .int) (List.mem_of_getElem? (i := 4) (by decide +kernel))) rfl hK hP hD hS hA rfl (fun _ => rfl) (by decide) (by decide) (by decide) (Nat.le_of_ble_eq_true rfl) (Nat.le_of_ble_eq_true rfl) dX7_init_79 (fun a_n79 H hP hD hS => ?_)
  replace hP : va_P D vwCl ((a_t, .inr (7, fs)) :: (jsn pl (a_n79, .inl (cT 0, 60, .inl (fun _ => 0))))) H := hP
  replace hD : va_D A ((a_t, .inr (7, fs)) :: (jsn pl (a_n79, .inl (cT 0, 60, .inl (fun _ => 0))))) := hD
  obtain ⟨pl0, epl0⟩ : ∃ z : va_W, z = jsn pl (a_n79, .inl (cT 0, 60, .inl (fun _ => 0))) := ⟨_, rfl⟩
  rw [← epl0] at hP hD
  refine W.widen (k := 10) (n := 264) (Nat.le_of_ble_eq_true rfl) (Nat.le_of_ble_eq_true rfl) ?_
  refine va_putF (D := D) (ci := 7) (v := .ref a_n79) (ty := (.array .int)) (C := RX7) (T := TX7) (N := 72) (fs := fs) hx hb hts iw_wsX7_init_X7 tyX7 tyX7_ok nmX7 hown hK hP hD hS 0 rfl rfl 17 (by decide) (hts (.fieldLink RX7 38 "BargeBasinModel" "undoBarge" "[I") (List.mem_of_getElem? (i := 15) (by decide +kernel))) (fun _ h9 => h9) rfl hin rfl (by decide +kernel) rfl rfl (by rw [hlen]; decide) dX7_init_81 (fun H locs hP hD hS => ?_)
  replace hP : va_P D vwCl ((a_t, .inr (7, fs.set 17 (.ref a_n79))) :: pl0) H := hP
  replace hD : va_D A ((a_t, .inr (7, fs.set 17 (.ref a_n79))) :: pl0) := hD
  obtain ⟨fs0, efs0⟩ : ∃ z : List Value, z = fs.set 17 (.ref a_n79) := ⟨_, rfl⟩
  rw [← efs0] at hP hD
  have hlen0 : fs0.length = 72 := by rw [efs0, List.length_set]; exact hlen
  refine lv_aload_n hx hb dX7_init_84 rfl (lv_at hl 0 rfl) ?_
  refine lv_bipush (v := 60) hx hb dX7_init_85 (by decide) ?_
  refine jnewa (atype := .int) (t0 := 0) (ty := .int) (N2 := 60) (a0 := (60, .inl (fun _ => 0))) hx hb (hts (.arrayClass .int) (List.mem_of_getElem? (i := 4) (by decide +kernel))) rfl hK hP hD hS hA rfl (fun _ => rfl) (by decide) (by decide) (by decide) (Nat.le_of_ble_eq_true rfl) (Nat.le_of_ble_eq_true rfl) dX7_init_87 (fun a_n87 H hP hD hS => ?_)
  replace hP : va_P D vwCl ((a_t, .inr (7, fs0)) :: (jsn pl0 (a_n87, .inl (cT 0, 60, .inl (fun _ => 0))))) H := hP
  replace hD : va_D A ((a_t, .inr (7, fs0)) :: (jsn pl0 (a_n87, .inl (cT 0, 60, .inl (fun _ => 0))))) := hD
  obtain ⟨pl1, epl1⟩ : ∃ z : va_W, z = jsn pl0 (a_n87, .inl (cT 0, 60, .inl (fun _ => 0))) := ⟨_, rfl⟩
  rw [← epl1] at hP hD
  refine W.widen (k := 11) (n := 324) (Nat.le_of_ble_eq_true rfl) (Nat.le_of_ble_eq_true rfl) ?_
  refine va_putF (D := D) (ci := 7) (v := .ref a_n87) (ty := (.array .int)) (C := RX7) (T := TX7) (N := 72) (fs := fs0) hx hb hts iw_wsX7_init_X7 tyX7 tyX7_ok nmX7 hown hK hP hD hS 0 rfl rfl 18 (by decide) (hts (.fieldLink RX7 41 "BargeBasinModel" "undoFrom" "[I") (List.mem_of_getElem? (i := 16) (by decide +kernel))) (fun _ h9 => h9) rfl hin rfl (by decide +kernel) rfl rfl (by rw [hlen0]; decide) dX7_init_89 (fun H locs hP hD hS => ?_)
  replace hP : va_P D vwCl ((a_t, .inr (7, fs0.set 18 (.ref a_n87))) :: pl1) H := hP
  replace hD : va_D A ((a_t, .inr (7, fs0.set 18 (.ref a_n87))) :: pl1) := hD
  obtain ⟨fs1, efs1⟩ : ∃ z : List Value, z = fs0.set 18 (.ref a_n87) := ⟨_, rfl⟩
  rw [← efs1] at hP hD
  have hlen1 : fs1.length = 72 := by rw [efs1, List.length_set]; exact hlen0
  refine lv_aload_n hx hb dX7_init_92 rfl (lv_at hl 0 rfl) ?_
  refine lv_bipush (v := 60) hx hb dX7_init_93 (by decide) ?_
  refine jnewa (atype := .int) (t0 := 0) (ty := .int) (N2 := 60) (a0 := (60, .inl (fun _ => 0))) hx hb (hts (.arrayClass .int) (List.mem_of_getElem? (i := 4) (by decide +kernel))) rfl hK hP hD hS hA rfl (fun _ => rfl) (by decide) (by decide) (by decide) (Nat.le_of_ble_eq_true rfl) (Nat.le_of_ble_eq_true rfl) dX7_init_95 (fun a_n95 H hP hD hS => ?_)
  replace hP : va_P D vwCl ((a_t, .inr (7, fs1)) :: (jsn pl1 (a_n95, .inl (cT 0, 60, .inl (fun _ => 0))))) H := hP
  replace hD : va_D A ((a_t, .inr (7, fs1)) :: (jsn pl1 (a_n95, .inl (cT 0, 60, .inl (fun _ => 0))))) := hD
  obtain ⟨pl2, epl2⟩ : ∃ z : va_W, z = jsn pl1 (a_n95, .inl (cT 0, 60, .inl (fun _ => 0))) := ⟨_, rfl⟩
  rw [← epl2] at hP hD
  refine W.widen (k := 12) (n := 384) (Nat.le_of_ble_eq_true rfl) (Nat.le_of_ble_eq_true rfl) ?_
  refine va_putF (D := D) (ci := 7) (v := .ref a_n95) (ty := (.array .int)) (C := RX7) (T := TX7) (N := 72) (fs := fs1) hx hb hts iw_wsX7_init_X7 tyX7 tyX7_ok nmX7 hown hK hP hD hS 0 rfl rfl 19 (by decide) (hts (.fieldLink RX7 44 "BargeBasinModel" "undoTo" "[I") (List.mem_of_getElem? (i := 17) (by decide +kernel))) (fun _ h9 => h9) rfl hin rfl (by decide +kernel) rfl rfl (by rw [hlen1]; decide) dX7_init_97 (fun H locs hP hD hS => ?_)
  replace hP : va_P D vwCl ((a_t, .inr (7, fs1.set 19 (.ref a_n95))) :: pl2) H := hP
  replace hD : va_D A ((a_t, .inr (7, fs1.set 19 (.ref a_n95))) :: pl2) := hD
  obtain ⟨fs2, efs2⟩ : ∃ z : List Value, z = fs1.set 19 (.ref a_n95) := ⟨_, rfl⟩
  rw [← efs2] at hP hD
  have hlen2 : fs2.length = 72 := by rw [efs2, List.length_set]; exact hlen1
  refine lv_aload_n hx hb dX7_init_100 rfl (lv_at hl 0 rfl) ?_
  refine lv_bipush (v := 60) hx hb dX7_init_101 (by decide) ?_
  refine jnewa (atype := .int) (t0 := 0) (ty := .int) (N2 := 60) (a0 := (60, .inl (fun _ => 0))) hx hb (hts (.arrayClass .int) (List.mem_of_getElem? (i := 4) (by decide +kernel))) rfl hK hP hD hS hA rfl (fun _ => rfl) (by decide) (by decide) (by decide) (Nat.le_of_ble_eq_true rfl) (Nat.le_of_ble_eq_true rfl) dX7_init_103 (fun a_n103 H hP hD hS => ?_)
  replace hP : va_P D vwCl ((a_t, .inr (7, fs2)) :: (jsn pl2 (a_n103, .inl (cT 0, 60, .inl (fun _ => 0))))) H := hP
  replace hD : va_D A ((a_t, .inr (7, fs2)) :: (jsn pl2 (a_n103, .inl (cT 0, 60, .inl (fun _ => 0))))) := hD
  obtain ⟨pl3, epl3⟩ : ∃ z : va_W, z = jsn pl2 (a_n103, .inl (cT 0, 60, .inl (fun _ => 0))) := ⟨_, rfl⟩
  rw [← epl3] at hP hD
  refine W.widen (k := 13) (n := 444) (Nat.le_of_ble_eq_true rfl) (Nat.le_of_ble_eq_true rfl) ?_
  refine va_putF (D := D) (ci := 7) (v := .ref a_n103) (ty := (.array .int)) (C := RX7) (T := TX7) (N := 72) (fs := fs2) hx hb hts iw_wsX7_init_X7 tyX7 tyX7_ok nmX7 hown hK hP hD hS 0 rfl rfl 20 (by decide) (hts (.fieldLink RX7 47 "BargeBasinModel" "redoBarge" "[I") (List.mem_of_getElem? (i := 18) (by decide +kernel))) (fun _ h9 => h9) rfl hin rfl (by decide +kernel) rfl rfl (by rw [hlen2]; decide) dX7_init_105 (fun H locs hP hD hS => ?_)
  replace hP : va_P D vwCl ((a_t, .inr (7, fs2.set 20 (.ref a_n103))) :: pl3) H := hP
  replace hD : va_D A ((a_t, .inr (7, fs2.set 20 (.ref a_n103))) :: pl3) := hD
  obtain ⟨fs3, efs3⟩ : ∃ z : List Value, z = fs2.set 20 (.ref a_n103) := ⟨_, rfl⟩
  rw [← efs3] at hP hD
  have hlen3 : fs3.length = 72 := by rw [efs3, List.length_set]; exact hlen2
  refine lv_aload_n hx hb dX7_init_108 rfl (lv_at hl 0 rfl) ?_
  refine lv_bipush (v := 60) hx hb dX7_init_109 (by decide) ?_
  refine jnewa (atype := .int) (t0 := 0) (ty := .int) (N2 := 60) (a0 := (60, .inl (fun _ => 0))) hx hb (hts (.arrayClass .int) (List.mem_of_getElem? (i := 4) (by decide +kernel))) rfl hK hP hD hS hA rfl (fun _ => rfl) (by decide) (by decide) (by decide) (Nat.le_of_ble_eq_true rfl) (Nat.le_of_ble_eq_true rfl) dX7_init_111 (fun a_n111 H hP hD hS => ?_)
  replace hP : va_P D vwCl ((a_t, .inr (7, fs3)) :: (jsn pl3 (a_n111, .inl (cT 0, 60, .inl (fun _ => 0))))) H := hP
  replace hD : va_D A ((a_t, .inr (7, fs3)) :: (jsn pl3 (a_n111, .inl (cT 0, 60, .inl (fun _ => 0))))) := hD
  obtain ⟨pl4, epl4⟩ : ∃ z : va_W, z = jsn pl3 (a_n111, .inl (cT 0, 60, .inl (fun _ => 0))) := ⟨_, rfl⟩
  rw [← epl4] at hP hD
  refine W.widen (k := 14) (n := 504) (Nat.le_of_ble_eq_true rfl) (Nat.le_of_ble_eq_true rfl) ?_
  refine va_putF (D := D) (ci := 7) (v := .ref a_n111) (ty := (.array .int)) (C := RX7) (T := TX7) (N := 72) (fs := fs3) hx hb hts iw_wsX7_init_X7 tyX7 tyX7_ok nmX7 hown hK hP hD hS 0 rfl rfl 21 (by decide) (hts (.fieldLink RX7 50 "BargeBasinModel" "redoFrom" "[I") (List.mem_of_getElem? (i := 19) (by decide +kernel))) (fun _ h9 => h9) rfl hin rfl (by decide +kernel) rfl rfl (by rw [hlen3]; decide) dX7_init_113 (fun H locs hP hD hS => ?_)
  replace hP : va_P D vwCl ((a_t, .inr (7, fs3.set 21 (.ref a_n111))) :: pl4) H := hP
  replace hD : va_D A ((a_t, .inr (7, fs3.set 21 (.ref a_n111))) :: pl4) := hD
  obtain ⟨fs4, efs4⟩ : ∃ z : List Value, z = fs3.set 21 (.ref a_n111) := ⟨_, rfl⟩
  rw [← efs4] at hP hD
  have hlen4 : fs4.length = 72 := by rw [efs4, List.length_set]; exact hlen3
  refine lv_aload_n hx hb dX7_init_116 rfl (lv_at hl 0 rfl) ?_
  refine lv_bipush (v := 60) hx hb dX7_init_117 (by decide) ?_
  refine jnewa (atype := .int) (t0 := 0) (ty := .int) (N2 := 60) (a0 := (60, .inl (fun _ => 0))) hx hb (hts (.arrayClass .int) (List.mem_of_getElem? (i := 4) (by decide +kernel))) rfl hK hP hD hS hA rfl (fun _ => rfl) (by decide) (by decide) (by decide) (Nat.le_of_ble_eq_true rfl) (Nat.le_of_ble_eq_true rfl) dX7_init_119 (fun a_n119 H hP hD hS => ?_)
  replace hP : va_P D vwCl ((a_t, .inr (7, fs4)) :: (jsn pl4 (a_n119, .inl (cT 0, 60, .inl (fun _ => 0))))) H := hP
  replace hD : va_D A ((a_t, .inr (7, fs4)) :: (jsn pl4 (a_n119, .inl (cT 0, 60, .inl (fun _ => 0))))) := hD
  obtain ⟨pl5, epl5⟩ : ∃ z : va_W, z = jsn pl4 (a_n119, .inl (cT 0, 60, .inl (fun _ => 0))) := ⟨_, rfl⟩
  rw [← epl5] at hP hD
  refine W.widen (k := 15) (n := 564) (Nat.le_of_ble_eq_true rfl) (Nat.le_of_ble_eq_true rfl) ?_
  refine va_putF (D := D) (ci := 7) (v := .ref a_n119) (ty := (.array .int)) (C := RX7) (T := TX7) (N := 72) (fs := fs4) hx hb hts iw_wsX7_init_X7 tyX7 tyX7_ok nmX7 hown hK hP hD hS 0 rfl rfl 22 (by decide) (hts (.fieldLink RX7 53 "BargeBasinModel" "redoTo" "[I") (List.mem_of_getElem? (i := 20) (by decide +kernel))) (fun _ h9 => h9) rfl hin rfl (by decide +kernel) rfl rfl (by rw [hlen4]; decide) dX7_init_121 (fun H locs hP hD hS => ?_)
  replace hP : va_P D vwCl ((a_t, .inr (7, fs4.set 22 (.ref a_n119))) :: pl5) H := hP
  replace hD : va_D A ((a_t, .inr (7, fs4.set 22 (.ref a_n119))) :: pl5) := hD
  obtain ⟨fs5, efs5⟩ : ∃ z : List Value, z = fs4.set 22 (.ref a_n119) := ⟨_, rfl⟩
  rw [← efs5] at hP hD
  have hlen5 : fs5.length = 72 := by rw [efs5, List.length_set]; exact hlen4
  refine lv_aload_n hx hb dX7_init_124 rfl (lv_at hl 0 rfl) ?_
  refine lv_iconst (v := -1) hx hb dX7_init_125 (by decide) ?_
  refine va_put (D := D) (ci := 7) (v := .int ((-1 : Int32))) (ty := .int) (C := RX7) (T := TX7) (N := 72) (fs := fs5) hx hb hts iw_wsX7_init_X7 tyX7 tyX7_ok nmX7 hown hK hP hD hS 0 rfl rfl 23 (by decide) (hts (.fieldLink RX7 56 "BargeBasinModel" "whyStep" "I") (List.mem_of_getElem? (i := 21) (by decide +kernel))) (fun _ h9 => h9) rfl (by decide +kernel) rfl rfl (by rw [hlen5]; decide) dX7_init_126 (fun H locs hP hD hS => ?_)
  replace hP : va_P D vwCl ((a_t, .inr (7, fs5.set 23 (.int (-1)))) :: pl5) H := hP
  replace hD : va_D A ((a_t, .inr (7, fs5.set 23 (.int (-1)))) :: pl5) := hD
  obtain ⟨fs6, efs6⟩ : ∃ z : List Value, z = fs5.set 23 (.int (-1)) := ⟨_, rfl⟩
  rw [← efs6] at hP hD
  have hlen6 : fs6.length = 72 := by rw [efs6, List.length_set]; exact hlen5
  refine lv_aload_n hx hb dX7_init_129 rfl (lv_at hl 0 rfl) ?_
  refine lv_iconst (v := -1) hx hb dX7_init_130 (by decide) ?_
  refine va_put (D := D) (ci := 7) (v := .int ((-1 : Int32))) (ty := .int) (C := RX7) (T := TX7) (N := 72) (fs := fs6) hx hb hts iw_wsX7_init_X7 tyX7 tyX7_ok nmX7 hown hK hP hD hS 0 rfl rfl 24 (by decide) (hts (.fieldLink RX7 60 "BargeBasinModel" "whyWhat" "I") (List.mem_of_getElem? (i := 22) (by decide +kernel))) (fun _ h9 => h9) rfl (by decide +kernel) rfl rfl (by rw [hlen6]; decide) dX7_init_131 (fun H locs hP hD hS => ?_)
  replace hP : va_P D vwCl ((a_t, .inr (7, fs6.set 24 (.int (-1)))) :: pl5) H := hP
  replace hD : va_D A ((a_t, .inr (7, fs6.set 24 (.int (-1)))) :: pl5) := hD
  obtain ⟨fs7, efs7⟩ : ∃ z : List Value, z = fs6.set 24 (.int (-1)) := ⟨_, rfl⟩
  rw [← efs7] at hP hD
  have hlen7 : fs7.length = 72 := by rw [efs7, List.length_set]; exact hlen6
  refine lv_aload_n hx hb dX7_init_134 rfl (lv_at hl 0 rfl) ?_
  refine lv_iconst (v := -1) hx hb dX7_init_135 (by decide) ?_
  refine va_put (D := D) (ci := 7) (v := .int ((-1 : Int32))) (ty := .int) (C := RX7) (T := TX7) (N := 72) (fs := fs7) hx hb hts iw_wsX7_init_X7 tyX7 tyX7_ok nmX7 hown hK hP hD hS 0 rfl rfl 25 (by decide) (hts (.fieldLink RX7 63 "BargeBasinModel" "whyWho" "I") (List.mem_of_getElem? (i := 23) (by decide +kernel))) (fun _ h9 => h9) rfl (by decide +kernel) rfl rfl (by rw [hlen7]; decide) dX7_init_136 (fun H locs hP hD hS => ?_)
  replace hP : va_P D vwCl ((a_t, .inr (7, fs7.set 25 (.int (-1)))) :: pl5) H := hP
  replace hD : va_D A ((a_t, .inr (7, fs7.set 25 (.int (-1)))) :: pl5) := hD
  obtain ⟨fs8, efs8⟩ : ∃ z : List Value, z = fs7.set 25 (.int (-1)) := ⟨_, rfl⟩
  rw [← efs8] at hP hD
  have hlen8 : fs8.length = 72 := by rw [efs8, List.length_set]; exact hlen7
  subst epl5
  subst epl4
  subst epl3
  subst epl2
  subst epl1
  subst epl0
  subst efs8
  subst efs7
  subst efs6
  subst efs5
  subst efs4
  subst efs3
  subst efs2
  subst efs1
  subst efs0
  exact K _ _ _ _ _ _ _ _ hP hD hS
set_option maxHeartbeats 4000000 in
set_option maxRecDepth 100000 in
theorem mi_s2 {p : Program} {l : Launch} {e : Env} {s : State} {m : MethodId} {args : Array Value} {below : List Frame} {meth : Method} {c : Code} {Q : State → Prop} {A : Nat → Prop} {D : va_G} {cT : Nat → ClassId} {a_t : Nat} {ls : Array Slot} {H : Heap} {locs : List Loc} {pl : va_W} {fs : List Value} (hx : p.tables.exec = Jvm.exec) (hb : c.code = cX7_init) (hown : s.vm.findClass RX7 = some m.cls) (hts : ∀ w ∈ wsX7_init, w.before args s = true) (hK : va_K D vwCl (jT cT) s) (hA : ∀ q : Nat, s.heap.size ≤ q → A q) (hin : meth.name = "<init>") (hl : lv_has ls 1 [(0, .ref a_t)]) (hlen : fs.length = 72) (hP : va_P D vwCl ((a_t, .inr (7, fs)) :: pl) H) (hD : va_D A ((a_t, .inr (7, fs)) :: pl)) (hS : va_S A s.heap H locs) (K : ∀ (a_n143 a_n152 a_n161 a_n169 a_n178 a_n187 a_n196 a_n205 a_n214 : Nat) (H : Heap) (locs : List Loc), va_P D vwCl ((a_t, .inr (7, (((((((((fs.set 28 (.ref a_n143)).set 29 (.ref a_n152)).set 30 (.ref a_n161)).set 32 (.ref a_n169)).set 33 (.ref a_n178)).set 34 (.ref a_n187)).set 35 (.ref a_n196)).set 36 (.ref a_n205)).set 37 (.ref a_n214)))) :: (jsn (jsn (jsn (jsn (jsn (jsn (jsn (jsn (jsn pl (a_n143, .inl (cT 0, 6000, .inl (fun _ => 0)))) (a_n152, .inl (cT 0, 6000, .inl (fun _ => 0)))) (a_n161, .inl (cT 0, 6000, .inl (fun _ => 0)))) (a_n169, .inl (cT 3, 72012, .inl (fun _ => 0)))) (a_n178, .inl (cT 0, 16384, .inl (fun _ => 0)))) (a_n187, .inl (cT 0, 6001, .inl (fun _ => 0)))) (a_n196, .inl (cT 0, 6001, .inl (fun _ => 0)))) (a_n205, .inl (cT 0, 6001, .inl (fun _ => 0)))) (a_n214, .inl (cT 0, 6001, .inl (fun _ => 0))))) H → va_D A ((a_t, .inr (7, (((((((((fs.set 28 (.ref a_n143)).set 29 (.ref a_n152)).set 30 (.ref a_n161)).set 32 (.ref a_n169)).set 33 (.ref a_n178)).set 34 (.ref a_n187)).set 35 (.ref a_n196)).set 36 (.ref a_n205)).set 37 (.ref a_n214)))) :: (jsn (jsn (jsn (jsn (jsn (jsn (jsn (jsn (jsn pl (a_n143, .inl (cT 0, 6000, .inl (fun _ => 0)))) (a_n152, .inl (cT 0, 6000, .inl (fun _ => 0)))) (a_n161, .inl (cT 0, 6000, .inl (fun _ => 0)))) (a_n169, .inl (cT 3, 72012, .inl (fun _ => 0)))) (a_n178, .inl (cT 0, 16384, .inl (fun _ => 0)))) (a_n187, .inl (cT 0, 6001, .inl (fun _ => 0)))) (a_n196, .inl (cT 0, 6001, .inl (fun _ => 0)))) (a_n205, .inl (cT 0, 6001, .inl (fun _ => 0)))) (a_n214, .inl (cT 0, 6001, .inl (fun _ => 0))))) → va_S A s.heap H locs → W p l e (headSpec wsX7_init rm_BargeBasinModel_init).room s m args below meth c H locs 24 130964 Q (F0 m 219 ls [])) : W p l e (headSpec wsX7_init rm_BargeBasinModel_init).room s m args below meth c H locs 15 564 Q (F0 m 139 ls []) := by
  refine lv_aload_n hx hb dX7_init_139 rfl (lv_at hl 0 rfl) ?_
  refine lv_sipush (v := 6000) hx hb dX7_init_140 (by decide) ?_
  refine jnewa (atype := .int) (t0 := 0) (ty := .int) (N2 := 6000) (a0 := (6000, .inl (fun _ => 0))) hx hb (hts (.arrayClass .int) (List.mem_of_getElem? (i := 4) (by decide +kernel))) rfl hK hP hD hS hA rfl (fun _ => rfl) (by decide) (by decide) (by decide) (Nat.le_of_ble_eq_true rfl) (Nat.le_of_ble_eq_true rfl) dX7_init_143 (fun a_n143 H hP hD hS => ?_)
  replace hP : va_P D vwCl ((a_t, .inr (7, fs)) :: (jsn pl (a_n143, .inl (cT 0, 6000, .inl (fun _ => 0))))) H := hP
  replace hD : va_D A ((a_t, .inr (7, fs)) :: (jsn pl (a_n143, .inl (cT 0, 6000, .inl (fun _ => 0))))) := hD
  obtain ⟨pl0, epl0⟩ : ∃ z : va_W, z = jsn pl (a_n143, .inl (cT 0, 6000, .inl (fun _ => 0))) := ⟨_, rfl⟩
  rw [← epl0] at hP hD
  refine W.widen (k := 16) (n := 6564) (Nat.le_of_ble_eq_true rfl) (Nat.le_of_ble_eq_true rfl) ?_
  refine va_putF (D := D) (ci := 7) (v := .ref a_n143) (ty := (.array .int)) (C := RX7) (T := TX7) (N := 72) (fs := fs) hx hb hts iw_wsX7_init_X7 tyX7 tyX7_ok nmX7 hown hK hP hD hS 0 rfl rfl 28 (by decide) (hts (.fieldLink RX7 66 "BargeBasinModel" "planBarge" "[I") (List.mem_of_getElem? (i := 24) (by decide +kernel))) (fun _ h9 => h9) rfl hin rfl (by decide +kernel) rfl rfl (by rw [hlen]; decide) dX7_init_145 (fun H locs hP hD hS => ?_)
  replace hP : va_P D vwCl ((a_t, .inr (7, fs.set 28 (.ref a_n143))) :: pl0) H := hP
  replace hD : va_D A ((a_t, .inr (7, fs.set 28 (.ref a_n143))) :: pl0) := hD
  obtain ⟨fs0, efs0⟩ : ∃ z : List Value, z = fs.set 28 (.ref a_n143) := ⟨_, rfl⟩
  rw [← efs0] at hP hD
  have hlen0 : fs0.length = 72 := by rw [efs0, List.length_set]; exact hlen
  refine lv_aload_n hx hb dX7_init_148 rfl (lv_at hl 0 rfl) ?_
  refine lv_sipush (v := 6000) hx hb dX7_init_149 (by decide) ?_
  refine jnewa (atype := .int) (t0 := 0) (ty := .int) (N2 := 6000) (a0 := (6000, .inl (fun _ => 0))) hx hb (hts (.arrayClass .int) (List.mem_of_getElem? (i := 4) (by decide +kernel))) rfl hK hP hD hS hA rfl (fun _ => rfl) (by decide) (by decide) (by decide) (Nat.le_of_ble_eq_true rfl) (Nat.le_of_ble_eq_true rfl) dX7_init_152 (fun a_n152 H hP hD hS => ?_)
  replace hP : va_P D vwCl ((a_t, .inr (7, fs0)) :: (jsn pl0 (a_n152, .inl (cT 0, 6000, .inl (fun _ => 0))))) H := hP
  replace hD : va_D A ((a_t, .inr (7, fs0)) :: (jsn pl0 (a_n152, .inl (cT 0, 6000, .inl (fun _ => 0))))) := hD
  obtain ⟨pl1, epl1⟩ : ∃ z : va_W, z = jsn pl0 (a_n152, .inl (cT 0, 6000, .inl (fun _ => 0))) := ⟨_, rfl⟩
  rw [← epl1] at hP hD
  refine W.widen (k := 17) (n := 12564) (Nat.le_of_ble_eq_true rfl) (Nat.le_of_ble_eq_true rfl) ?_
  refine va_putF (D := D) (ci := 7) (v := .ref a_n152) (ty := (.array .int)) (C := RX7) (T := TX7) (N := 72) (fs := fs0) hx hb hts iw_wsX7_init_X7 tyX7 tyX7_ok nmX7 hown hK hP hD hS 0 rfl rfl 29 (by decide) (hts (.fieldLink RX7 69 "BargeBasinModel" "planWay" "[I") (List.mem_of_getElem? (i := 25) (by decide +kernel))) (fun _ h9 => h9) rfl hin rfl (by decide +kernel) rfl rfl (by rw [hlen0]; decide) dX7_init_154 (fun H locs hP hD hS => ?_)
  replace hP : va_P D vwCl ((a_t, .inr (7, fs0.set 29 (.ref a_n152))) :: pl1) H := hP
  replace hD : va_D A ((a_t, .inr (7, fs0.set 29 (.ref a_n152))) :: pl1) := hD
  obtain ⟨fs1, efs1⟩ : ∃ z : List Value, z = fs0.set 29 (.ref a_n152) := ⟨_, rfl⟩
  rw [← efs1] at hP hD
  have hlen1 : fs1.length = 72 := by rw [efs1, List.length_set]; exact hlen0
  refine lv_aload_n hx hb dX7_init_157 rfl (lv_at hl 0 rfl) ?_
  refine lv_sipush (v := 6000) hx hb dX7_init_158 (by decide) ?_
  refine jnewa (atype := .int) (t0 := 0) (ty := .int) (N2 := 6000) (a0 := (6000, .inl (fun _ => 0))) hx hb (hts (.arrayClass .int) (List.mem_of_getElem? (i := 4) (by decide +kernel))) rfl hK hP hD hS hA rfl (fun _ => rfl) (by decide) (by decide) (by decide) (Nat.le_of_ble_eq_true rfl) (Nat.le_of_ble_eq_true rfl) dX7_init_161 (fun a_n161 H hP hD hS => ?_)
  replace hP : va_P D vwCl ((a_t, .inr (7, fs1)) :: (jsn pl1 (a_n161, .inl (cT 0, 6000, .inl (fun _ => 0))))) H := hP
  replace hD : va_D A ((a_t, .inr (7, fs1)) :: (jsn pl1 (a_n161, .inl (cT 0, 6000, .inl (fun _ => 0))))) := hD
  obtain ⟨pl2, epl2⟩ : ∃ z : va_W, z = jsn pl1 (a_n161, .inl (cT 0, 6000, .inl (fun _ => 0))) := ⟨_, rfl⟩
  rw [← epl2] at hP hD
  refine W.widen (k := 18) (n := 18564) (Nat.le_of_ble_eq_true rfl) (Nat.le_of_ble_eq_true rfl) ?_
  refine va_putF (D := D) (ci := 7) (v := .ref a_n161) (ty := (.array .int)) (C := RX7) (T := TX7) (N := 72) (fs := fs1) hx hb hts iw_wsX7_init_X7 tyX7 tyX7_ok nmX7 hown hK hP hD hS 0 rfl rfl 30 (by decide) (hts (.fieldLink RX7 72 "BargeBasinModel" "planSteps" "[I") (List.mem_of_getElem? (i := 26) (by decide +kernel))) (fun _ h9 => h9) rfl hin rfl (by decide +kernel) rfl rfl (by rw [hlen1]; decide) dX7_init_163 (fun H locs hP hD hS => ?_)
  replace hP : va_P D vwCl ((a_t, .inr (7, fs1.set 30 (.ref a_n161))) :: pl2) H := hP
  replace hD : va_D A ((a_t, .inr (7, fs1.set 30 (.ref a_n161))) :: pl2) := hD
  obtain ⟨fs2, efs2⟩ : ∃ z : List Value, z = fs1.set 30 (.ref a_n161) := ⟨_, rfl⟩
  rw [← efs2] at hP hD
  have hlen2 : fs2.length = 72 := by rw [efs2, List.length_set]; exact hlen1
  refine lv_aload_n hx hb dX7_init_166 rfl (lv_at hl 0 rfl) ?_
  refine lv_ldc hx hb hown (hts (.constant RX7 75 (72012)) (List.mem_of_getElem? (i := 27) (by decide +kernel))) dX7_init_167 ?_
  refine jnewa (atype := .byte) (t0 := 3) (ty := .byte) (N2 := 72012) (a0 := (72012, .inl (fun _ => 0))) hx hb (hts (.arrayClass .byte) (List.mem_of_getElem? (i := 28) (by decide +kernel))) rfl hK hP hD hS hA rfl (fun _ => rfl) (by decide) (by decide) (by decide) (Nat.le_of_ble_eq_true rfl) (Nat.le_of_ble_eq_true rfl) dX7_init_169 (fun a_n169 H hP hD hS => ?_)
  replace hP : va_P D vwCl ((a_t, .inr (7, fs2)) :: (jsn pl2 (a_n169, .inl (cT 3, 72012, .inl (fun _ => 0))))) H := hP
  replace hD : va_D A ((a_t, .inr (7, fs2)) :: (jsn pl2 (a_n169, .inl (cT 3, 72012, .inl (fun _ => 0))))) := hD
  obtain ⟨pl3, epl3⟩ : ∃ z : va_W, z = jsn pl2 (a_n169, .inl (cT 3, 72012, .inl (fun _ => 0))) := ⟨_, rfl⟩
  rw [← epl3] at hP hD
  refine W.widen (k := 19) (n := 90576) (Nat.le_of_ble_eq_true rfl) (Nat.le_of_ble_eq_true rfl) ?_
  refine va_putF (D := D) (ci := 7) (v := .ref a_n169) (ty := (.array .byte)) (C := RX7) (T := TX7) (N := 72) (fs := fs2) hx hb hts iw_wsX7_init_X7 tyX7 tyX7_ok nmX7 hown hK hP hD hS 0 rfl rfl 32 (by decide) (hts (.fieldLink RX7 76 "BargeBasinModel" "places" "[B") (List.mem_of_getElem? (i := 29) (by decide +kernel))) (fun _ h9 => h9) rfl hin rfl (by decide +kernel) rfl rfl (by rw [hlen2]; decide) dX7_init_171 (fun H locs hP hD hS => ?_)
  replace hP : va_P D vwCl ((a_t, .inr (7, fs2.set 32 (.ref a_n169))) :: pl3) H := hP
  replace hD : va_D A ((a_t, .inr (7, fs2.set 32 (.ref a_n169))) :: pl3) := hD
  obtain ⟨fs3, efs3⟩ : ∃ z : List Value, z = fs2.set 32 (.ref a_n169) := ⟨_, rfl⟩
  rw [← efs3] at hP hD
  have hlen3 : fs3.length = 72 := by rw [efs3, List.length_set]; exact hlen2
  refine lv_aload_n hx hb dX7_init_174 rfl (lv_at hl 0 rfl) ?_
  refine lv_sipush (v := 16384) hx hb dX7_init_175 (by decide) ?_
  refine jnewa (atype := .int) (t0 := 0) (ty := .int) (N2 := 16384) (a0 := (16384, .inl (fun _ => 0))) hx hb (hts (.arrayClass .int) (List.mem_of_getElem? (i := 4) (by decide +kernel))) rfl hK hP hD hS hA rfl (fun _ => rfl) (by decide) (by decide) (by decide) (Nat.le_of_ble_eq_true rfl) (Nat.le_of_ble_eq_true rfl) dX7_init_178 (fun a_n178 H hP hD hS => ?_)
  replace hP : va_P D vwCl ((a_t, .inr (7, fs3)) :: (jsn pl3 (a_n178, .inl (cT 0, 16384, .inl (fun _ => 0))))) H := hP
  replace hD : va_D A ((a_t, .inr (7, fs3)) :: (jsn pl3 (a_n178, .inl (cT 0, 16384, .inl (fun _ => 0))))) := hD
  obtain ⟨pl4, epl4⟩ : ∃ z : va_W, z = jsn pl3 (a_n178, .inl (cT 0, 16384, .inl (fun _ => 0))) := ⟨_, rfl⟩
  rw [← epl4] at hP hD
  refine W.widen (k := 20) (n := 106960) (Nat.le_of_ble_eq_true rfl) (Nat.le_of_ble_eq_true rfl) ?_
  refine va_putF (D := D) (ci := 7) (v := .ref a_n178) (ty := (.array .int)) (C := RX7) (T := TX7) (N := 72) (fs := fs3) hx hb hts iw_wsX7_init_X7 tyX7 tyX7_ok nmX7 hown hK hP hD hS 0 rfl rfl 33 (by decide) (hts (.fieldLink RX7 80 "BargeBasinModel" "heads" "[I") (List.mem_of_getElem? (i := 30) (by decide +kernel))) (fun _ h9 => h9) rfl hin rfl (by decide +kernel) rfl rfl (by rw [hlen3]; decide) dX7_init_180 (fun H locs hP hD hS => ?_)
  replace hP : va_P D vwCl ((a_t, .inr (7, fs3.set 33 (.ref a_n178))) :: pl4) H := hP
  replace hD : va_D A ((a_t, .inr (7, fs3.set 33 (.ref a_n178))) :: pl4) := hD
  obtain ⟨fs4, efs4⟩ : ∃ z : List Value, z = fs3.set 33 (.ref a_n178) := ⟨_, rfl⟩
  rw [← efs4] at hP hD
  have hlen4 : fs4.length = 72 := by rw [efs4, List.length_set]; exact hlen3
  refine lv_aload_n hx hb dX7_init_183 rfl (lv_at hl 0 rfl) ?_
  refine lv_sipush (v := 6001) hx hb dX7_init_184 (by decide) ?_
  refine jnewa (atype := .int) (t0 := 0) (ty := .int) (N2 := 6001) (a0 := (6001, .inl (fun _ => 0))) hx hb (hts (.arrayClass .int) (List.mem_of_getElem? (i := 4) (by decide +kernel))) rfl hK hP hD hS hA rfl (fun _ => rfl) (by decide) (by decide) (by decide) (Nat.le_of_ble_eq_true rfl) (Nat.le_of_ble_eq_true rfl) dX7_init_187 (fun a_n187 H hP hD hS => ?_)
  replace hP : va_P D vwCl ((a_t, .inr (7, fs4)) :: (jsn pl4 (a_n187, .inl (cT 0, 6001, .inl (fun _ => 0))))) H := hP
  replace hD : va_D A ((a_t, .inr (7, fs4)) :: (jsn pl4 (a_n187, .inl (cT 0, 6001, .inl (fun _ => 0))))) := hD
  obtain ⟨pl5, epl5⟩ : ∃ z : va_W, z = jsn pl4 (a_n187, .inl (cT 0, 6001, .inl (fun _ => 0))) := ⟨_, rfl⟩
  rw [← epl5] at hP hD
  refine W.widen (k := 21) (n := 112961) (Nat.le_of_ble_eq_true rfl) (Nat.le_of_ble_eq_true rfl) ?_
  refine va_putF (D := D) (ci := 7) (v := .ref a_n187) (ty := (.array .int)) (C := RX7) (T := TX7) (N := 72) (fs := fs4) hx hb hts iw_wsX7_init_X7 tyX7 tyX7_ok nmX7 hown hK hP hD hS 0 rfl rfl 34 (by decide) (hts (.fieldLink RX7 83 "BargeBasinModel" "chain" "[I") (List.mem_of_getElem? (i := 31) (by decide +kernel))) (fun _ h9 => h9) rfl hin rfl (by decide +kernel) rfl rfl (by rw [hlen4]; decide) dX7_init_189 (fun H locs hP hD hS => ?_)
  replace hP : va_P D vwCl ((a_t, .inr (7, fs4.set 34 (.ref a_n187))) :: pl5) H := hP
  replace hD : va_D A ((a_t, .inr (7, fs4.set 34 (.ref a_n187))) :: pl5) := hD
  obtain ⟨fs5, efs5⟩ : ∃ z : List Value, z = fs4.set 34 (.ref a_n187) := ⟨_, rfl⟩
  rw [← efs5] at hP hD
  have hlen5 : fs5.length = 72 := by rw [efs5, List.length_set]; exact hlen4
  refine lv_aload_n hx hb dX7_init_192 rfl (lv_at hl 0 rfl) ?_
  refine lv_sipush (v := 6001) hx hb dX7_init_193 (by decide) ?_
  refine jnewa (atype := .int) (t0 := 0) (ty := .int) (N2 := 6001) (a0 := (6001, .inl (fun _ => 0))) hx hb (hts (.arrayClass .int) (List.mem_of_getElem? (i := 4) (by decide +kernel))) rfl hK hP hD hS hA rfl (fun _ => rfl) (by decide) (by decide) (by decide) (Nat.le_of_ble_eq_true rfl) (Nat.le_of_ble_eq_true rfl) dX7_init_196 (fun a_n196 H hP hD hS => ?_)
  replace hP : va_P D vwCl ((a_t, .inr (7, fs5)) :: (jsn pl5 (a_n196, .inl (cT 0, 6001, .inl (fun _ => 0))))) H := hP
  replace hD : va_D A ((a_t, .inr (7, fs5)) :: (jsn pl5 (a_n196, .inl (cT 0, 6001, .inl (fun _ => 0))))) := hD
  obtain ⟨pl6, epl6⟩ : ∃ z : va_W, z = jsn pl5 (a_n196, .inl (cT 0, 6001, .inl (fun _ => 0))) := ⟨_, rfl⟩
  rw [← epl6] at hP hD
  refine W.widen (k := 22) (n := 118962) (Nat.le_of_ble_eq_true rfl) (Nat.le_of_ble_eq_true rfl) ?_
  refine va_putF (D := D) (ci := 7) (v := .ref a_n196) (ty := (.array .int)) (C := RX7) (T := TX7) (N := 72) (fs := fs5) hx hb hts iw_wsX7_init_X7 tyX7 tyX7_ok nmX7 hown hK hP hD hS 0 rfl rfl 35 (by decide) (hts (.fieldLink RX7 86 "BargeBasinModel" "depth" "[I") (List.mem_of_getElem? (i := 32) (by decide +kernel))) (fun _ h9 => h9) rfl hin rfl (by decide +kernel) rfl rfl (by rw [hlen5]; decide) dX7_init_198 (fun H locs hP hD hS => ?_)
  replace hP : va_P D vwCl ((a_t, .inr (7, fs5.set 35 (.ref a_n196))) :: pl6) H := hP
  replace hD : va_D A ((a_t, .inr (7, fs5.set 35 (.ref a_n196))) :: pl6) := hD
  obtain ⟨fs6, efs6⟩ : ∃ z : List Value, z = fs5.set 35 (.ref a_n196) := ⟨_, rfl⟩
  rw [← efs6] at hP hD
  have hlen6 : fs6.length = 72 := by rw [efs6, List.length_set]; exact hlen5
  refine lv_aload_n hx hb dX7_init_201 rfl (lv_at hl 0 rfl) ?_
  refine lv_sipush (v := 6001) hx hb dX7_init_202 (by decide) ?_
  refine jnewa (atype := .int) (t0 := 0) (ty := .int) (N2 := 6001) (a0 := (6001, .inl (fun _ => 0))) hx hb (hts (.arrayClass .int) (List.mem_of_getElem? (i := 4) (by decide +kernel))) rfl hK hP hD hS hA rfl (fun _ => rfl) (by decide) (by decide) (by decide) (Nat.le_of_ble_eq_true rfl) (Nat.le_of_ble_eq_true rfl) dX7_init_205 (fun a_n205 H hP hD hS => ?_)
  replace hP : va_P D vwCl ((a_t, .inr (7, fs6)) :: (jsn pl6 (a_n205, .inl (cT 0, 6001, .inl (fun _ => 0))))) H := hP
  replace hD : va_D A ((a_t, .inr (7, fs6)) :: (jsn pl6 (a_n205, .inl (cT 0, 6001, .inl (fun _ => 0))))) := hD
  obtain ⟨pl7, epl7⟩ : ∃ z : va_W, z = jsn pl6 (a_n205, .inl (cT 0, 6001, .inl (fun _ => 0))) := ⟨_, rfl⟩
  rw [← epl7] at hP hD
  refine W.widen (k := 23) (n := 124963) (Nat.le_of_ble_eq_true rfl) (Nat.le_of_ble_eq_true rfl) ?_
  refine va_putF (D := D) (ci := 7) (v := .ref a_n205) (ty := (.array .int)) (C := RX7) (T := TX7) (N := 72) (fs := fs6) hx hb hts iw_wsX7_init_X7 tyX7 tyX7_ok nmX7 hown hK hP hD hS 0 rfl rfl 36 (by decide) (hts (.fieldLink RX7 89 "BargeBasinModel" "parent" "[I") (List.mem_of_getElem? (i := 33) (by decide +kernel))) (fun _ h9 => h9) rfl hin rfl (by decide +kernel) rfl rfl (by rw [hlen6]; decide) dX7_init_207 (fun H locs hP hD hS => ?_)
  replace hP : va_P D vwCl ((a_t, .inr (7, fs6.set 36 (.ref a_n205))) :: pl7) H := hP
  replace hD : va_D A ((a_t, .inr (7, fs6.set 36 (.ref a_n205))) :: pl7) := hD
  obtain ⟨fs7, efs7⟩ : ∃ z : List Value, z = fs6.set 36 (.ref a_n205) := ⟨_, rfl⟩
  rw [← efs7] at hP hD
  have hlen7 : fs7.length = 72 := by rw [efs7, List.length_set]; exact hlen6
  refine lv_aload_n hx hb dX7_init_210 rfl (lv_at hl 0 rfl) ?_
  refine lv_sipush (v := 6001) hx hb dX7_init_211 (by decide) ?_
  refine jnewa (atype := .int) (t0 := 0) (ty := .int) (N2 := 6001) (a0 := (6001, .inl (fun _ => 0))) hx hb (hts (.arrayClass .int) (List.mem_of_getElem? (i := 4) (by decide +kernel))) rfl hK hP hD hS hA rfl (fun _ => rfl) (by decide) (by decide) (by decide) (Nat.le_of_ble_eq_true rfl) (Nat.le_of_ble_eq_true rfl) dX7_init_214 (fun a_n214 H hP hD hS => ?_)
  replace hP : va_P D vwCl ((a_t, .inr (7, fs7)) :: (jsn pl7 (a_n214, .inl (cT 0, 6001, .inl (fun _ => 0))))) H := hP
  replace hD : va_D A ((a_t, .inr (7, fs7)) :: (jsn pl7 (a_n214, .inl (cT 0, 6001, .inl (fun _ => 0))))) := hD
  obtain ⟨pl8, epl8⟩ : ∃ z : va_W, z = jsn pl7 (a_n214, .inl (cT 0, 6001, .inl (fun _ => 0))) := ⟨_, rfl⟩
  rw [← epl8] at hP hD
  refine W.widen (k := 24) (n := 130964) (Nat.le_of_ble_eq_true rfl) (Nat.le_of_ble_eq_true rfl) ?_
  refine va_putF (D := D) (ci := 7) (v := .ref a_n214) (ty := (.array .int)) (C := RX7) (T := TX7) (N := 72) (fs := fs7) hx hb hts iw_wsX7_init_X7 tyX7 tyX7_ok nmX7 hown hK hP hD hS 0 rfl rfl 37 (by decide) (hts (.fieldLink RX7 92 "BargeBasinModel" "byBarge" "[I") (List.mem_of_getElem? (i := 34) (by decide +kernel))) (fun _ h9 => h9) rfl hin rfl (by decide +kernel) rfl rfl (by rw [hlen7]; decide) dX7_init_216 (fun H locs hP hD hS => ?_)
  replace hP : va_P D vwCl ((a_t, .inr (7, fs7.set 37 (.ref a_n214))) :: pl8) H := hP
  replace hD : va_D A ((a_t, .inr (7, fs7.set 37 (.ref a_n214))) :: pl8) := hD
  obtain ⟨fs8, efs8⟩ : ∃ z : List Value, z = fs7.set 37 (.ref a_n214) := ⟨_, rfl⟩
  rw [← efs8] at hP hD
  have hlen8 : fs8.length = 72 := by rw [efs8, List.length_set]; exact hlen7
  subst epl8
  subst epl7
  subst epl6
  subst epl5
  subst epl4
  subst epl3
  subst epl2
  subst epl1
  subst epl0
  subst efs8
  subst efs7
  subst efs6
  subst efs5
  subst efs4
  subst efs3
  subst efs2
  subst efs1
  subst efs0
  exact K _ _ _ _ _ _ _ _ _ _ _ hP hD hS
set_option maxHeartbeats 4000000 in
set_option maxRecDepth 100000 in
theorem mi_s3 {p : Program} {l : Launch} {e : Env} {s : State} {m : MethodId} {args : Array Value} {below : List Frame} {meth : Method} {c : Code} {Q : State → Prop} {A : Nat → Prop} {D : va_G} {cT : Nat → ClassId} {a_t : Nat} {ls : Array Slot} {H : Heap} {locs : List Loc} {pl : va_W} {fs : List Value} (hx : p.tables.exec = Jvm.exec) (hb : c.code = cX7_init) (hown : s.vm.findClass RX7 = some m.cls) (hts : ∀ w ∈ wsX7_init, w.before args s = true) (hK : va_K D vwCl (jT cT) s) (hA : ∀ q : Nat, s.heap.size ≤ q → A q) (hin : meth.name = "<init>") (hl : lv_has ls 1 [(0, .ref a_t)]) (hlen : fs.length = 72) (hP : va_P D vwCl ((a_t, .inr (7, fs)) :: pl) H) (hD : va_D A ((a_t, .inr (7, fs)) :: pl)) (hS : va_S A s.heap H locs) (K : ∀ (a_n223 a_n232 a_n241 a_n250 a_n258 a_n266 a_n275 a_n283 a_n291 : Nat) (H : Heap) (locs : List Loc), va_P D vwCl ((a_t, .inr (7, (((((((((fs.set 38 (.ref a_n223)).set 39 (.ref a_n232)).set 40 (.ref a_n241)).set 41 (.ref a_n250)).set 42 (.ref a_n258)).set 43 (.ref a_n266)).set 45 (.ref a_n275)).set 46 (.ref a_n283)).set 47 (.ref a_n291)))) :: (jsn (jsn (jsn (jsn (jsn (jsn (jsn (jsn (jsn pl (a_n223, .inl (cT 0, 6001, .inl (fun _ => 0)))) (a_n232, .inl (cT 0, 6001, .inl (fun _ => 0)))) (a_n241, .inl (cT 0, 6001, .inl (fun _ => 0)))) (a_n250, .inl (cT 0, 6002, .inl (fun _ => 0)))) (a_n258, .inl (cT 0, 1010000, .inl (fun _ => 0)))) (a_n266, .inl (cT 3, 1010000, .inl (fun _ => 0)))) (a_n275, .inl (cT 1, 6001, .inr (.inl (fun _ => 0))))) (a_n283, .inl (cT 0, 64, .inl (fun _ => 0)))) (a_n291, .inl (cT 0, 12, .inl (fun _ => 0))))) H → va_D A ((a_t, .inr (7, (((((((((fs.set 38 (.ref a_n223)).set 39 (.ref a_n232)).set 40 (.ref a_n241)).set 41 (.ref a_n250)).set 42 (.ref a_n258)).set 43 (.ref a_n266)).set 45 (.ref a_n275)).set 46 (.ref a_n283)).set 47 (.ref a_n291)))) :: (jsn (jsn (jsn (jsn (jsn (jsn (jsn (jsn (jsn pl (a_n223, .inl (cT 0, 6001, .inl (fun _ => 0)))) (a_n232, .inl (cT 0, 6001, .inl (fun _ => 0)))) (a_n241, .inl (cT 0, 6001, .inl (fun _ => 0)))) (a_n250, .inl (cT 0, 6002, .inl (fun _ => 0)))) (a_n258, .inl (cT 0, 1010000, .inl (fun _ => 0)))) (a_n266, .inl (cT 3, 1010000, .inl (fun _ => 0)))) (a_n275, .inl (cT 1, 6001, .inr (.inl (fun _ => 0))))) (a_n283, .inl (cT 0, 64, .inl (fun _ => 0)))) (a_n291, .inl (cT 0, 12, .inl (fun _ => 0))))) → va_S A s.heap H locs → W p l e (headSpec wsX7_init rm_BargeBasinModel_init).room s m args below meth c H locs 33 2181046 Q (F0 m 296 ls [])) : W p l e (headSpec wsX7_init rm_BargeBasinModel_init).room s m args below meth c H locs 24 130964 Q (F0 m 219 ls []) := by
  refine lv_aload_n hx hb dX7_init_219 rfl (lv_at hl 0 rfl) ?_
  refine lv_sipush (v := 6001) hx hb dX7_init_220 (by decide) ?_
  refine jnewa (atype := .int) (t0 := 0) (ty := .int) (N2 := 6001) (a0 := (6001, .inl (fun _ => 0))) hx hb (hts (.arrayClass .int) (List.mem_of_getElem? (i := 4) (by decide +kernel))) rfl hK hP hD hS hA rfl (fun _ => rfl) (by decide) (by decide) (by decide) (Nat.le_of_ble_eq_true rfl) (Nat.le_of_ble_eq_true rfl) dX7_init_223 (fun a_n223 H hP hD hS => ?_)
  replace hP : va_P D vwCl ((a_t, .inr (7, fs)) :: (jsn pl (a_n223, .inl (cT 0, 6001, .inl (fun _ => 0))))) H := hP
  replace hD : va_D A ((a_t, .inr (7, fs)) :: (jsn pl (a_n223, .inl (cT 0, 6001, .inl (fun _ => 0))))) := hD
  obtain ⟨pl0, epl0⟩ : ∃ z : va_W, z = jsn pl (a_n223, .inl (cT 0, 6001, .inl (fun _ => 0))) := ⟨_, rfl⟩
  rw [← epl0] at hP hD
  refine W.widen (k := 25) (n := 136965) (Nat.le_of_ble_eq_true rfl) (Nat.le_of_ble_eq_true rfl) ?_
  refine va_putF (D := D) (ci := 7) (v := .ref a_n223) (ty := (.array .int)) (C := RX7) (T := TX7) (N := 72) (fs := fs) hx hb hts iw_wsX7_init_X7 tyX7 tyX7_ok nmX7 hown hK hP hD hS 0 rfl rfl 38 (by decide) (hts (.fieldLink RX7 95 "BargeBasinModel" "byWay" "[I") (List.mem_of_getElem? (i := 35) (by decide +kernel))) (fun _ h9 => h9) rfl hin rfl (by decide +kernel) rfl rfl (by rw [hlen]; decide) dX7_init_225 (fun H locs hP hD hS => ?_)
  replace hP : va_P D vwCl ((a_t, .inr (7, fs.set 38 (.ref a_n223))) :: pl0) H := hP
  replace hD : va_D A ((a_t, .inr (7, fs.set 38 (.ref a_n223))) :: pl0) := hD
  obtain ⟨fs0, efs0⟩ : ∃ z : List Value, z = fs.set 38 (.ref a_n223) := ⟨_, rfl⟩
  rw [← efs0] at hP hD
  have hlen0 : fs0.length = 72 := by rw [efs0, List.length_set]; exact hlen
  refine lv_aload_n hx hb dX7_init_228 rfl (lv_at hl 0 rfl) ?_
  refine lv_sipush (v := 6001) hx hb dX7_init_229 (by decide) ?_
  refine jnewa (atype := .int) (t0 := 0) (ty := .int) (N2 := 6001) (a0 := (6001, .inl (fun _ => 0))) hx hb (hts (.arrayClass .int) (List.mem_of_getElem? (i := 4) (by decide +kernel))) rfl hK hP hD hS hA rfl (fun _ => rfl) (by decide) (by decide) (by decide) (Nat.le_of_ble_eq_true rfl) (Nat.le_of_ble_eq_true rfl) dX7_init_232 (fun a_n232 H hP hD hS => ?_)
  replace hP : va_P D vwCl ((a_t, .inr (7, fs0)) :: (jsn pl0 (a_n232, .inl (cT 0, 6001, .inl (fun _ => 0))))) H := hP
  replace hD : va_D A ((a_t, .inr (7, fs0)) :: (jsn pl0 (a_n232, .inl (cT 0, 6001, .inl (fun _ => 0))))) := hD
  obtain ⟨pl1, epl1⟩ : ∃ z : va_W, z = jsn pl0 (a_n232, .inl (cT 0, 6001, .inl (fun _ => 0))) := ⟨_, rfl⟩
  rw [← epl1] at hP hD
  refine W.widen (k := 26) (n := 142966) (Nat.le_of_ble_eq_true rfl) (Nat.le_of_ble_eq_true rfl) ?_
  refine va_putF (D := D) (ci := 7) (v := .ref a_n232) (ty := (.array .int)) (C := RX7) (T := TX7) (N := 72) (fs := fs0) hx hb hts iw_wsX7_init_X7 tyX7 tyX7_ok nmX7 hown hK hP hD hS 0 rfl rfl 39 (by decide) (hts (.fieldLink RX7 98 "BargeBasinModel" "bySteps" "[I") (List.mem_of_getElem? (i := 36) (by decide +kernel))) (fun _ h9 => h9) rfl hin rfl (by decide +kernel) rfl rfl (by rw [hlen0]; decide) dX7_init_234 (fun H locs hP hD hS => ?_)
  replace hP : va_P D vwCl ((a_t, .inr (7, fs0.set 39 (.ref a_n232))) :: pl1) H := hP
  replace hD : va_D A ((a_t, .inr (7, fs0.set 39 (.ref a_n232))) :: pl1) := hD
  obtain ⟨fs1, efs1⟩ : ∃ z : List Value, z = fs0.set 39 (.ref a_n232) := ⟨_, rfl⟩
  rw [← efs1] at hP hD
  have hlen1 : fs1.length = 72 := by rw [efs1, List.length_set]; exact hlen0
  refine lv_aload_n hx hb dX7_init_237 rfl (lv_at hl 0 rfl) ?_
  refine lv_sipush (v := 6001) hx hb dX7_init_238 (by decide) ?_
  refine jnewa (atype := .int) (t0 := 0) (ty := .int) (N2 := 6001) (a0 := (6001, .inl (fun _ => 0))) hx hb (hts (.arrayClass .int) (List.mem_of_getElem? (i := 4) (by decide +kernel))) rfl hK hP hD hS hA rfl (fun _ => rfl) (by decide) (by decide) (by decide) (Nat.le_of_ble_eq_true rfl) (Nat.le_of_ble_eq_true rfl) dX7_init_241 (fun a_n241 H hP hD hS => ?_)
  replace hP : va_P D vwCl ((a_t, .inr (7, fs1)) :: (jsn pl1 (a_n241, .inl (cT 0, 6001, .inl (fun _ => 0))))) H := hP
  replace hD : va_D A ((a_t, .inr (7, fs1)) :: (jsn pl1 (a_n241, .inl (cT 0, 6001, .inl (fun _ => 0))))) := hD
  obtain ⟨pl2, epl2⟩ : ∃ z : va_W, z = jsn pl1 (a_n241, .inl (cT 0, 6001, .inl (fun _ => 0))) := ⟨_, rfl⟩
  rw [← epl2] at hP hD
  refine W.widen (k := 27) (n := 148967) (Nat.le_of_ble_eq_true rfl) (Nat.le_of_ble_eq_true rfl) ?_
  refine va_putF (D := D) (ci := 7) (v := .ref a_n241) (ty := (.array .int)) (C := RX7) (T := TX7) (N := 72) (fs := fs1) hx hb hts iw_wsX7_init_X7 tyX7 tyX7_ok nmX7 hown hK hP hD hS 0 rfl rfl 40 (by decide) (hts (.fieldLink RX7 101 "BargeBasinModel" "far" "[I") (List.mem_of_getElem? (i := 37) (by decide +kernel))) (fun _ h9 => h9) rfl hin rfl (by decide +kernel) rfl rfl (by rw [hlen1]; decide) dX7_init_243 (fun H locs hP hD hS => ?_)
  replace hP : va_P D vwCl ((a_t, .inr (7, fs1.set 40 (.ref a_n241))) :: pl2) H := hP
  replace hD : va_D A ((a_t, .inr (7, fs1.set 40 (.ref a_n241))) :: pl2) := hD
  obtain ⟨fs2, efs2⟩ : ∃ z : List Value, z = fs1.set 40 (.ref a_n241) := ⟨_, rfl⟩
  rw [← efs2] at hP hD
  have hlen2 : fs2.length = 72 := by rw [efs2, List.length_set]; exact hlen1
  refine lv_aload_n hx hb dX7_init_246 rfl (lv_at hl 0 rfl) ?_
  refine lv_sipush (v := 6002) hx hb dX7_init_247 (by decide) ?_
  refine jnewa (atype := .int) (t0 := 0) (ty := .int) (N2 := 6002) (a0 := (6002, .inl (fun _ => 0))) hx hb (hts (.arrayClass .int) (List.mem_of_getElem? (i := 4) (by decide +kernel))) rfl hK hP hD hS hA rfl (fun _ => rfl) (by decide) (by decide) (by decide) (Nat.le_of_ble_eq_true rfl) (Nat.le_of_ble_eq_true rfl) dX7_init_250 (fun a_n250 H hP hD hS => ?_)
  replace hP : va_P D vwCl ((a_t, .inr (7, fs2)) :: (jsn pl2 (a_n250, .inl (cT 0, 6002, .inl (fun _ => 0))))) H := hP
  replace hD : va_D A ((a_t, .inr (7, fs2)) :: (jsn pl2 (a_n250, .inl (cT 0, 6002, .inl (fun _ => 0))))) := hD
  obtain ⟨pl3, epl3⟩ : ∃ z : va_W, z = jsn pl2 (a_n250, .inl (cT 0, 6002, .inl (fun _ => 0))) := ⟨_, rfl⟩
  rw [← epl3] at hP hD
  refine W.widen (k := 28) (n := 154969) (Nat.le_of_ble_eq_true rfl) (Nat.le_of_ble_eq_true rfl) ?_
  refine va_putF (D := D) (ci := 7) (v := .ref a_n250) (ty := (.array .int)) (C := RX7) (T := TX7) (N := 72) (fs := fs2) hx hb hts iw_wsX7_init_X7 tyX7 tyX7_ok nmX7 hown hK hP hD hS 0 rfl rfl 41 (by decide) (hts (.fieldLink RX7 104 "BargeBasinModel" "firstEdge" "[I") (List.mem_of_getElem? (i := 38) (by decide +kernel))) (fun _ h9 => h9) rfl hin rfl (by decide +kernel) rfl rfl (by rw [hlen2]; decide) dX7_init_252 (fun H locs hP hD hS => ?_)
  replace hP : va_P D vwCl ((a_t, .inr (7, fs2.set 41 (.ref a_n250))) :: pl3) H := hP
  replace hD : va_D A ((a_t, .inr (7, fs2.set 41 (.ref a_n250))) :: pl3) := hD
  obtain ⟨fs3, efs3⟩ : ∃ z : List Value, z = fs2.set 41 (.ref a_n250) := ⟨_, rfl⟩
  rw [← efs3] at hP hD
  have hlen3 : fs3.length = 72 := by rw [efs3, List.length_set]; exact hlen2
  refine lv_aload_n hx hb dX7_init_255 rfl (lv_at hl 0 rfl) ?_
  refine lv_ldc hx hb hown (hts (.constant RX7 107 (1010000)) (List.mem_of_getElem? (i := 39) (by decide +kernel))) dX7_init_256 ?_
  refine jnewa (atype := .int) (t0 := 0) (ty := .int) (N2 := 1010000) (a0 := (1010000, .inl (fun _ => 0))) hx hb (hts (.arrayClass .int) (List.mem_of_getElem? (i := 4) (by decide +kernel))) rfl hK hP hD hS hA rfl (fun _ => rfl) (by decide) (by decide) (by decide) (Nat.le_of_ble_eq_true rfl) (Nat.le_of_ble_eq_true rfl) dX7_init_258 (fun a_n258 H hP hD hS => ?_)
  replace hP : va_P D vwCl ((a_t, .inr (7, fs3)) :: (jsn pl3 (a_n258, .inl (cT 0, 1010000, .inl (fun _ => 0))))) H := hP
  replace hD : va_D A ((a_t, .inr (7, fs3)) :: (jsn pl3 (a_n258, .inl (cT 0, 1010000, .inl (fun _ => 0))))) := hD
  obtain ⟨pl4, epl4⟩ : ∃ z : va_W, z = jsn pl3 (a_n258, .inl (cT 0, 1010000, .inl (fun _ => 0))) := ⟨_, rfl⟩
  rw [← epl4] at hP hD
  refine W.widen (k := 29) (n := 1164969) (Nat.le_of_ble_eq_true rfl) (Nat.le_of_ble_eq_true rfl) ?_
  refine va_putF (D := D) (ci := 7) (v := .ref a_n258) (ty := (.array .int)) (C := RX7) (T := TX7) (N := 72) (fs := fs3) hx hb hts iw_wsX7_init_X7 tyX7 tyX7_ok nmX7 hown hK hP hD hS 0 rfl rfl 42 (by decide) (hts (.fieldLink RX7 108 "BargeBasinModel" "edge" "[I") (List.mem_of_getElem? (i := 40) (by decide +kernel))) (fun _ h9 => h9) rfl hin rfl (by decide +kernel) rfl rfl (by rw [hlen3]; decide) dX7_init_260 (fun H locs hP hD hS => ?_)
  replace hP : va_P D vwCl ((a_t, .inr (7, fs3.set 42 (.ref a_n258))) :: pl4) H := hP
  replace hD : va_D A ((a_t, .inr (7, fs3.set 42 (.ref a_n258))) :: pl4) := hD
  obtain ⟨fs4, efs4⟩ : ∃ z : List Value, z = fs3.set 42 (.ref a_n258) := ⟨_, rfl⟩
  rw [← efs4] at hP hD
  have hlen4 : fs4.length = 72 := by rw [efs4, List.length_set]; exact hlen3
  refine lv_aload_n hx hb dX7_init_263 rfl (lv_at hl 0 rfl) ?_
  refine lv_ldc hx hb hown (hts (.constant RX7 107 (1010000)) (List.mem_of_getElem? (i := 39) (by decide +kernel))) dX7_init_264 ?_
  refine jnewa (atype := .byte) (t0 := 3) (ty := .byte) (N2 := 1010000) (a0 := (1010000, .inl (fun _ => 0))) hx hb (hts (.arrayClass .byte) (List.mem_of_getElem? (i := 28) (by decide +kernel))) rfl hK hP hD hS hA rfl (fun _ => rfl) (by decide) (by decide) (by decide) (Nat.le_of_ble_eq_true rfl) (Nat.le_of_ble_eq_true rfl) dX7_init_266 (fun a_n266 H hP hD hS => ?_)
  replace hP : va_P D vwCl ((a_t, .inr (7, fs4)) :: (jsn pl4 (a_n266, .inl (cT 3, 1010000, .inl (fun _ => 0))))) H := hP
  replace hD : va_D A ((a_t, .inr (7, fs4)) :: (jsn pl4 (a_n266, .inl (cT 3, 1010000, .inl (fun _ => 0))))) := hD
  obtain ⟨pl5, epl5⟩ : ∃ z : va_W, z = jsn pl4 (a_n266, .inl (cT 3, 1010000, .inl (fun _ => 0))) := ⟨_, rfl⟩
  rw [← epl5] at hP hD
  refine W.widen (k := 30) (n := 2174969) (Nat.le_of_ble_eq_true rfl) (Nat.le_of_ble_eq_true rfl) ?_
  refine va_putF (D := D) (ci := 7) (v := .ref a_n266) (ty := (.array .byte)) (C := RX7) (T := TX7) (N := 72) (fs := fs4) hx hb hts iw_wsX7_init_X7 tyX7 tyX7_ok nmX7 hown hK hP hD hS 0 rfl rfl 43 (by decide) (hts (.fieldLink RX7 111 "BargeBasinModel" "edgeBarge" "[B") (List.mem_of_getElem? (i := 41) (by decide +kernel))) (fun _ h9 => h9) rfl hin rfl (by decide +kernel) rfl rfl (by rw [hlen4]; decide) dX7_init_268 (fun H locs hP hD hS => ?_)
  replace hP : va_P D vwCl ((a_t, .inr (7, fs4.set 43 (.ref a_n266))) :: pl5) H := hP
  replace hD : va_D A ((a_t, .inr (7, fs4.set 43 (.ref a_n266))) :: pl5) := hD
  obtain ⟨fs5, efs5⟩ : ∃ z : List Value, z = fs4.set 43 (.ref a_n266) := ⟨_, rfl⟩
  rw [← efs5] at hP hD
  have hlen5 : fs5.length = 72 := by rw [efs5, List.length_set]; exact hlen4
  refine lv_aload_n hx hb dX7_init_271 rfl (lv_at hl 0 rfl) ?_
  refine lv_sipush (v := 6001) hx hb dX7_init_272 (by decide) ?_
  refine jnewa (atype := .long) (t0 := 1) (ty := .long) (N2 := 6001) (a0 := (6001, .inr (.inl (fun _ => 0)))) hx hb (hts (.arrayClass .long) (List.mem_of_getElem? (i := 42) (by decide +kernel))) rfl hK hP hD hS hA rfl (fun _ => rfl) (by decide) (by decide) (by decide) (Nat.le_of_ble_eq_true rfl) (Nat.le_of_ble_eq_true rfl) dX7_init_275 (fun a_n275 H hP hD hS => ?_)
  replace hP : va_P D vwCl ((a_t, .inr (7, fs5)) :: (jsn pl5 (a_n275, .inl (cT 1, 6001, .inr (.inl (fun _ => 0)))))) H := hP
  replace hD : va_D A ((a_t, .inr (7, fs5)) :: (jsn pl5 (a_n275, .inl (cT 1, 6001, .inr (.inl (fun _ => 0)))))) := hD
  obtain ⟨pl6, epl6⟩ : ∃ z : va_W, z = jsn pl5 (a_n275, .inl (cT 1, 6001, .inr (.inl (fun _ => 0)))) := ⟨_, rfl⟩
  rw [← epl6] at hP hD
  refine W.widen (k := 31) (n := 2180970) (Nat.le_of_ble_eq_true rfl) (Nat.le_of_ble_eq_true rfl) ?_
  refine va_putF (D := D) (ci := 7) (v := .ref a_n275) (ty := (.array .long)) (C := RX7) (T := TX7) (N := 72) (fs := fs5) hx hb hts iw_wsX7_init_X7 tyX7 tyX7_ok nmX7 hown hK hP hD hS 0 rfl rfl 45 (by decide) (hts (.fieldLink RX7 114 "BargeBasinModel" "count" "[J") (List.mem_of_getElem? (i := 43) (by decide +kernel))) (fun _ h9 => h9) rfl hin rfl (by decide +kernel) rfl rfl (by rw [hlen5]; decide) dX7_init_277 (fun H locs hP hD hS => ?_)
  replace hP : va_P D vwCl ((a_t, .inr (7, fs5.set 45 (.ref a_n275))) :: pl6) H := hP
  replace hD : va_D A ((a_t, .inr (7, fs5.set 45 (.ref a_n275))) :: pl6) := hD
  obtain ⟨fs6, efs6⟩ : ∃ z : List Value, z = fs5.set 45 (.ref a_n275) := ⟨_, rfl⟩
  rw [← efs6] at hP hD
  have hlen6 : fs6.length = 72 := by rw [efs6, List.length_set]; exact hlen5
  refine lv_aload_n hx hb dX7_init_280 rfl (lv_at hl 0 rfl) ?_
  refine lv_bipush (v := 64) hx hb dX7_init_281 (by decide) ?_
  refine jnewa (atype := .int) (t0 := 0) (ty := .int) (N2 := 64) (a0 := (64, .inl (fun _ => 0))) hx hb (hts (.arrayClass .int) (List.mem_of_getElem? (i := 4) (by decide +kernel))) rfl hK hP hD hS hA rfl (fun _ => rfl) (by decide) (by decide) (by decide) (Nat.le_of_ble_eq_true rfl) (Nat.le_of_ble_eq_true rfl) dX7_init_283 (fun a_n283 H hP hD hS => ?_)
  replace hP : va_P D vwCl ((a_t, .inr (7, fs6)) :: (jsn pl6 (a_n283, .inl (cT 0, 64, .inl (fun _ => 0))))) H := hP
  replace hD : va_D A ((a_t, .inr (7, fs6)) :: (jsn pl6 (a_n283, .inl (cT 0, 64, .inl (fun _ => 0))))) := hD
  obtain ⟨pl7, epl7⟩ : ∃ z : va_W, z = jsn pl6 (a_n283, .inl (cT 0, 64, .inl (fun _ => 0))) := ⟨_, rfl⟩
  rw [← epl7] at hP hD
  refine W.widen (k := 32) (n := 2181034) (Nat.le_of_ble_eq_true rfl) (Nat.le_of_ble_eq_true rfl) ?_
  refine va_putF (D := D) (ci := 7) (v := .ref a_n283) (ty := (.array .int)) (C := RX7) (T := TX7) (N := 72) (fs := fs6) hx hb hts iw_wsX7_init_X7 tyX7 tyX7_ok nmX7 hown hK hP hD hS 0 rfl rfl 46 (by decide) (hts (.fieldLink RX7 118 "BargeBasinModel" "who" "[I") (List.mem_of_getElem? (i := 44) (by decide +kernel))) (fun _ h9 => h9) rfl hin rfl (by decide +kernel) rfl rfl (by rw [hlen6]; decide) dX7_init_285 (fun H locs hP hD hS => ?_)
  replace hP : va_P D vwCl ((a_t, .inr (7, fs6.set 46 (.ref a_n283))) :: pl7) H := hP
  replace hD : va_D A ((a_t, .inr (7, fs6.set 46 (.ref a_n283))) :: pl7) := hD
  obtain ⟨fs7, efs7⟩ : ∃ z : List Value, z = fs6.set 46 (.ref a_n283) := ⟨_, rfl⟩
  rw [← efs7] at hP hD
  have hlen7 : fs7.length = 72 := by rw [efs7, List.length_set]; exact hlen6
  refine lv_aload_n hx hb dX7_init_288 rfl (lv_at hl 0 rfl) ?_
  refine lv_bipush (v := 12) hx hb dX7_init_289 (by decide) ?_
  refine jnewa (atype := .int) (t0 := 0) (ty := .int) (N2 := 12) (a0 := (12, .inl (fun _ => 0))) hx hb (hts (.arrayClass .int) (List.mem_of_getElem? (i := 4) (by decide +kernel))) rfl hK hP hD hS hA rfl (fun _ => rfl) (by decide) (by decide) (by decide) (Nat.le_of_ble_eq_true rfl) (Nat.le_of_ble_eq_true rfl) dX7_init_291 (fun a_n291 H hP hD hS => ?_)
  replace hP : va_P D vwCl ((a_t, .inr (7, fs7)) :: (jsn pl7 (a_n291, .inl (cT 0, 12, .inl (fun _ => 0))))) H := hP
  replace hD : va_D A ((a_t, .inr (7, fs7)) :: (jsn pl7 (a_n291, .inl (cT 0, 12, .inl (fun _ => 0))))) := hD
  obtain ⟨pl8, epl8⟩ : ∃ z : va_W, z = jsn pl7 (a_n291, .inl (cT 0, 12, .inl (fun _ => 0))) := ⟨_, rfl⟩
  rw [← epl8] at hP hD
  refine W.widen (k := 33) (n := 2181046) (Nat.le_of_ble_eq_true rfl) (Nat.le_of_ble_eq_true rfl) ?_
  refine va_putF (D := D) (ci := 7) (v := .ref a_n291) (ty := (.array .int)) (C := RX7) (T := TX7) (N := 72) (fs := fs7) hx hb hts iw_wsX7_init_X7 tyX7 tyX7_ok nmX7 hown hK hP hD hS 0 rfl rfl 47 (by decide) (hts (.fieldLink RX7 121 "BargeBasinModel" "here" "[I") (List.mem_of_getElem? (i := 45) (by decide +kernel))) (fun _ h9 => h9) rfl hin rfl (by decide +kernel) rfl rfl (by rw [hlen7]; decide) dX7_init_293 (fun H locs hP hD hS => ?_)
  replace hP : va_P D vwCl ((a_t, .inr (7, fs7.set 47 (.ref a_n291))) :: pl8) H := hP
  replace hD : va_D A ((a_t, .inr (7, fs7.set 47 (.ref a_n291))) :: pl8) := hD
  obtain ⟨fs8, efs8⟩ : ∃ z : List Value, z = fs7.set 47 (.ref a_n291) := ⟨_, rfl⟩
  rw [← efs8] at hP hD
  have hlen8 : fs8.length = 72 := by rw [efs8, List.length_set]; exact hlen7
  subst epl8
  subst epl7
  subst epl6
  subst epl5
  subst epl4
  subst epl3
  subst epl2
  subst epl1
  subst epl0
  subst efs8
  subst efs7
  subst efs6
  subst efs5
  subst efs4
  subst efs3
  subst efs2
  subst efs1
  subst efs0
  exact K _ _ _ _ _ _ _ _ _ _ _ hP hD hS
set_option maxHeartbeats 4000000 in
set_option maxRecDepth 100000 in
theorem mi_s4 {p : Program} {l : Launch} {e : Env} {s : State} {m : MethodId} {args : Array Value} {below : List Frame} {meth : Method} {c : Code} {Q : State → Prop} {A : Nat → Prop} {D : va_G} {cT : Nat → ClassId} {a_t : Nat} {ls : Array Slot} {H : Heap} {locs : List Loc} {pl : va_W} {fs : List Value} (hx : p.tables.exec = Jvm.exec) (hb : c.code = cX7_init) (hown : s.vm.findClass RX7 = some m.cls) (hts : ∀ w ∈ wsX7_init, w.before args s = true) (hK : va_K D vwCl (jT cT) s) (hA : ∀ q : Nat, s.heap.size ≤ q → A q) (hin : meth.name = "<init>") (hl : lv_has ls 1 [(0, .ref a_t)]) (hlen : fs.length = 72) (hP : va_P D vwCl ((a_t, .inr (7, fs)) :: pl) H) (hD : va_D A ((a_t, .inr (7, fs)) :: pl)) (hS : va_S A s.heap H locs) (K : ∀ (a_n298 a_n305 a_n312 a_n319 a_n328 a_n336 a_n344 a_n352 a_n360 : Nat) (H : Heap) (locs : List Loc), va_P D vwCl ((a_t, .inr (7, (((((((((fs.set 48 (.ref a_n298)).set 49 (.ref a_n305)).set 50 (.ref a_n312)).set 51 (.ref a_n319)).set 52 (.ref a_n328)).set 53 (.ref a_n336)).set 54 (.ref a_n344)).set 55 (.ref a_n352)).set 56 (.ref a_n360)))) :: (jsn (jsn (jsn (jsn (jsn (jsn (jsn (jsn (jsn pl (a_n298, .inl (cT 2, 4, .inl (fun _ => 0)))) (a_n305, .inl (cT 0, 4, .inl (fun _ => 0)))) (a_n312, .inl (cT 0, 4, .inl (fun _ => 0)))) (a_n319, .inl (cT 0, 4, .inl (fun _ => 0)))) (a_n328, .inl (cT 2, 256, .inl (fun _ => 0)))) (a_n336, .inl (cT 0, 48, .inl (fun _ => 0)))) (a_n344, .inl (cT 0, 48, .inl (fun _ => 0)))) (a_n352, .inl (cT 0, 48, .inl (fun _ => 0)))) (a_n360, .inl (cT 0, 48, .inl (fun _ => 0))))) H → va_D A ((a_t, .inr (7, (((((((((fs.set 48 (.ref a_n298)).set 49 (.ref a_n305)).set 50 (.ref a_n312)).set 51 (.ref a_n319)).set 52 (.ref a_n328)).set 53 (.ref a_n336)).set 54 (.ref a_n344)).set 55 (.ref a_n352)).set 56 (.ref a_n360)))) :: (jsn (jsn (jsn (jsn (jsn (jsn (jsn (jsn (jsn pl (a_n298, .inl (cT 2, 4, .inl (fun _ => 0)))) (a_n305, .inl (cT 0, 4, .inl (fun _ => 0)))) (a_n312, .inl (cT 0, 4, .inl (fun _ => 0)))) (a_n319, .inl (cT 0, 4, .inl (fun _ => 0)))) (a_n328, .inl (cT 2, 256, .inl (fun _ => 0)))) (a_n336, .inl (cT 0, 48, .inl (fun _ => 0)))) (a_n344, .inl (cT 0, 48, .inl (fun _ => 0)))) (a_n352, .inl (cT 0, 48, .inl (fun _ => 0)))) (a_n360, .inl (cT 0, 48, .inl (fun _ => 0))))) → va_S A s.heap H locs → W p l e (headSpec wsX7_init rm_BargeBasinModel_init).room s m args below meth c H locs 42 2181510 Q (F0 m 365 ls [])) : W p l e (headSpec wsX7_init rm_BargeBasinModel_init).room s m args below meth c H locs 33 2181046 Q (F0 m 296 ls []) := by
  refine lv_aload_n hx hb dX7_init_296 rfl (lv_at hl 0 rfl) ?_
  refine lv_iconst (v := 4) hx hb dX7_init_297 (by decide) ?_
  refine jnewa (atype := .boolean) (t0 := 2) (ty := .boolean) (N2 := 4) (a0 := (4, .inl (fun _ => 0))) hx hb (hts (.arrayClass .boolean) (List.mem_of_getElem? (i := 8) (by decide +kernel))) rfl hK hP hD hS hA rfl (fun _ => rfl) (by decide) (by decide) (by decide) (Nat.le_of_ble_eq_true rfl) (Nat.le_of_ble_eq_true rfl) dX7_init_298 (fun a_n298 H hP hD hS => ?_)
  replace hP : va_P D vwCl ((a_t, .inr (7, fs)) :: (jsn pl (a_n298, .inl (cT 2, 4, .inl (fun _ => 0))))) H := hP
  replace hD : va_D A ((a_t, .inr (7, fs)) :: (jsn pl (a_n298, .inl (cT 2, 4, .inl (fun _ => 0))))) := hD
  obtain ⟨pl0, epl0⟩ : ∃ z : va_W, z = jsn pl (a_n298, .inl (cT 2, 4, .inl (fun _ => 0))) := ⟨_, rfl⟩
  rw [← epl0] at hP hD
  refine W.widen (k := 34) (n := 2181050) (Nat.le_of_ble_eq_true rfl) (Nat.le_of_ble_eq_true rfl) ?_
  refine va_putF (D := D) (ci := 7) (v := .ref a_n298) (ty := (.array .boolean)) (C := RX7) (T := TX7) (N := 72) (fs := fs) hx hb hts iw_wsX7_init_X7 tyX7 tyX7_ok nmX7 hown hK hP hD hS 0 rfl rfl 48 (by decide) (hts (.fieldLink RX7 124 "BargeBasinModel" "isKept" "[Z") (List.mem_of_getElem? (i := 46) (by decide +kernel))) (fun _ h9 => h9) rfl hin rfl (by decide +kernel) rfl rfl (by rw [hlen]; decide) dX7_init_300 (fun H locs hP hD hS => ?_)
  replace hP : va_P D vwCl ((a_t, .inr (7, fs.set 48 (.ref a_n298))) :: pl0) H := hP
  replace hD : va_D A ((a_t, .inr (7, fs.set 48 (.ref a_n298))) :: pl0) := hD
  obtain ⟨fs0, efs0⟩ : ∃ z : List Value, z = fs.set 48 (.ref a_n298) := ⟨_, rfl⟩
  rw [← efs0] at hP hD
  have hlen0 : fs0.length = 72 := by rw [efs0, List.length_set]; exact hlen
  refine lv_aload_n hx hb dX7_init_303 rfl (lv_at hl 0 rfl) ?_
  refine lv_iconst (v := 4) hx hb dX7_init_304 (by decide) ?_
  refine jnewa (atype := .int) (t0 := 0) (ty := .int) (N2 := 4) (a0 := (4, .inl (fun _ => 0))) hx hb (hts (.arrayClass .int) (List.mem_of_getElem? (i := 4) (by decide +kernel))) rfl hK hP hD hS hA rfl (fun _ => rfl) (by decide) (by decide) (by decide) (Nat.le_of_ble_eq_true rfl) (Nat.le_of_ble_eq_true rfl) dX7_init_305 (fun a_n305 H hP hD hS => ?_)
  replace hP : va_P D vwCl ((a_t, .inr (7, fs0)) :: (jsn pl0 (a_n305, .inl (cT 0, 4, .inl (fun _ => 0))))) H := hP
  replace hD : va_D A ((a_t, .inr (7, fs0)) :: (jsn pl0 (a_n305, .inl (cT 0, 4, .inl (fun _ => 0))))) := hD
  obtain ⟨pl1, epl1⟩ : ∃ z : va_W, z = jsn pl0 (a_n305, .inl (cT 0, 4, .inl (fun _ => 0))) := ⟨_, rfl⟩
  rw [← epl1] at hP hD
  refine W.widen (k := 35) (n := 2181054) (Nat.le_of_ble_eq_true rfl) (Nat.le_of_ble_eq_true rfl) ?_
  refine va_putF (D := D) (ci := 7) (v := .ref a_n305) (ty := (.array .int)) (C := RX7) (T := TX7) (N := 72) (fs := fs0) hx hb hts iw_wsX7_init_X7 tyX7 tyX7_ok nmX7 hown hK hP hD hS 0 rfl rfl 49 (by decide) (hts (.fieldLink RX7 127 "BargeBasinModel" "keptWidth" "[I") (List.mem_of_getElem? (i := 47) (by decide +kernel))) (fun _ h9 => h9) rfl hin rfl (by decide +kernel) rfl rfl (by rw [hlen0]; decide) dX7_init_307 (fun H locs hP hD hS => ?_)
  replace hP : va_P D vwCl ((a_t, .inr (7, fs0.set 49 (.ref a_n305))) :: pl1) H := hP
  replace hD : va_D A ((a_t, .inr (7, fs0.set 49 (.ref a_n305))) :: pl1) := hD
  obtain ⟨fs1, efs1⟩ : ∃ z : List Value, z = fs0.set 49 (.ref a_n305) := ⟨_, rfl⟩
  rw [← efs1] at hP hD
  have hlen1 : fs1.length = 72 := by rw [efs1, List.length_set]; exact hlen0
  refine lv_aload_n hx hb dX7_init_310 rfl (lv_at hl 0 rfl) ?_
  refine lv_iconst (v := 4) hx hb dX7_init_311 (by decide) ?_
  refine jnewa (atype := .int) (t0 := 0) (ty := .int) (N2 := 4) (a0 := (4, .inl (fun _ => 0))) hx hb (hts (.arrayClass .int) (List.mem_of_getElem? (i := 4) (by decide +kernel))) rfl hK hP hD hS hA rfl (fun _ => rfl) (by decide) (by decide) (by decide) (Nat.le_of_ble_eq_true rfl) (Nat.le_of_ble_eq_true rfl) dX7_init_312 (fun a_n312 H hP hD hS => ?_)
  replace hP : va_P D vwCl ((a_t, .inr (7, fs1)) :: (jsn pl1 (a_n312, .inl (cT 0, 4, .inl (fun _ => 0))))) H := hP
  replace hD : va_D A ((a_t, .inr (7, fs1)) :: (jsn pl1 (a_n312, .inl (cT 0, 4, .inl (fun _ => 0))))) := hD
  obtain ⟨pl2, epl2⟩ : ∃ z : va_W, z = jsn pl1 (a_n312, .inl (cT 0, 4, .inl (fun _ => 0))) := ⟨_, rfl⟩
  rw [← epl2] at hP hD
  refine W.widen (k := 36) (n := 2181058) (Nat.le_of_ble_eq_true rfl) (Nat.le_of_ble_eq_true rfl) ?_
  refine va_putF (D := D) (ci := 7) (v := .ref a_n312) (ty := (.array .int)) (C := RX7) (T := TX7) (N := 72) (fs := fs1) hx hb hts iw_wsX7_init_X7 tyX7 tyX7_ok nmX7 hown hK hP hD hS 0 rfl rfl 50 (by decide) (hts (.fieldLink RX7 130 "BargeBasinModel" "keptHeight" "[I") (List.mem_of_getElem? (i := 48) (by decide +kernel))) (fun _ h9 => h9) rfl hin rfl (by decide +kernel) rfl rfl (by rw [hlen1]; decide) dX7_init_314 (fun H locs hP hD hS => ?_)
  replace hP : va_P D vwCl ((a_t, .inr (7, fs1.set 50 (.ref a_n312))) :: pl2) H := hP
  replace hD : va_D A ((a_t, .inr (7, fs1.set 50 (.ref a_n312))) :: pl2) := hD
  obtain ⟨fs2, efs2⟩ : ∃ z : List Value, z = fs1.set 50 (.ref a_n312) := ⟨_, rfl⟩
  rw [← efs2] at hP hD
  have hlen2 : fs2.length = 72 := by rw [efs2, List.length_set]; exact hlen1
  refine lv_aload_n hx hb dX7_init_317 rfl (lv_at hl 0 rfl) ?_
  refine lv_iconst (v := 4) hx hb dX7_init_318 (by decide) ?_
  refine jnewa (atype := .int) (t0 := 0) (ty := .int) (N2 := 4) (a0 := (4, .inl (fun _ => 0))) hx hb (hts (.arrayClass .int) (List.mem_of_getElem? (i := 4) (by decide +kernel))) rfl hK hP hD hS hA rfl (fun _ => rfl) (by decide) (by decide) (by decide) (Nat.le_of_ble_eq_true rfl) (Nat.le_of_ble_eq_true rfl) dX7_init_319 (fun a_n319 H hP hD hS => ?_)
  replace hP : va_P D vwCl ((a_t, .inr (7, fs2)) :: (jsn pl2 (a_n319, .inl (cT 0, 4, .inl (fun _ => 0))))) H := hP
  replace hD : va_D A ((a_t, .inr (7, fs2)) :: (jsn pl2 (a_n319, .inl (cT 0, 4, .inl (fun _ => 0))))) := hD
  obtain ⟨pl3, epl3⟩ : ∃ z : va_W, z = jsn pl2 (a_n319, .inl (cT 0, 4, .inl (fun _ => 0))) := ⟨_, rfl⟩
  rw [← epl3] at hP hD
  refine W.widen (k := 37) (n := 2181062) (Nat.le_of_ble_eq_true rfl) (Nat.le_of_ble_eq_true rfl) ?_
  refine va_putF (D := D) (ci := 7) (v := .ref a_n319) (ty := (.array .int)) (C := RX7) (T := TX7) (N := 72) (fs := fs2) hx hb hts iw_wsX7_init_X7 tyX7 tyX7_ok nmX7 hown hK hP hD hS 0 rfl rfl 51 (by decide) (hts (.fieldLink RX7 133 "BargeBasinModel" "keptBarges" "[I") (List.mem_of_getElem? (i := 49) (by decide +kernel))) (fun _ h9 => h9) rfl hin rfl (by decide +kernel) rfl rfl (by rw [hlen2]; decide) dX7_init_321 (fun H locs hP hD hS => ?_)
  replace hP : va_P D vwCl ((a_t, .inr (7, fs2.set 51 (.ref a_n319))) :: pl3) H := hP
  replace hD : va_D A ((a_t, .inr (7, fs2.set 51 (.ref a_n319))) :: pl3) := hD
  obtain ⟨fs3, efs3⟩ : ∃ z : List Value, z = fs2.set 51 (.ref a_n319) := ⟨_, rfl⟩
  rw [← efs3] at hP hD
  have hlen3 : fs3.length = 72 := by rw [efs3, List.length_set]; exact hlen2
  refine lv_aload_n hx hb dX7_init_324 rfl (lv_at hl 0 rfl) ?_
  refine lv_sipush (v := 256) hx hb dX7_init_325 (by decide) ?_
  refine jnewa (atype := .boolean) (t0 := 2) (ty := .boolean) (N2 := 256) (a0 := (256, .inl (fun _ => 0))) hx hb (hts (.arrayClass .boolean) (List.mem_of_getElem? (i := 8) (by decide +kernel))) rfl hK hP hD hS hA rfl (fun _ => rfl) (by decide) (by decide) (by decide) (Nat.le_of_ble_eq_true rfl) (Nat.le_of_ble_eq_true rfl) dX7_init_328 (fun a_n328 H hP hD hS => ?_)
  replace hP : va_P D vwCl ((a_t, .inr (7, fs3)) :: (jsn pl3 (a_n328, .inl (cT 2, 256, .inl (fun _ => 0))))) H := hP
  replace hD : va_D A ((a_t, .inr (7, fs3)) :: (jsn pl3 (a_n328, .inl (cT 2, 256, .inl (fun _ => 0))))) := hD
  obtain ⟨pl4, epl4⟩ : ∃ z : va_W, z = jsn pl3 (a_n328, .inl (cT 2, 256, .inl (fun _ => 0))) := ⟨_, rfl⟩
  rw [← epl4] at hP hD
  refine W.widen (k := 38) (n := 2181318) (Nat.le_of_ble_eq_true rfl) (Nat.le_of_ble_eq_true rfl) ?_
  refine va_putF (D := D) (ci := 7) (v := .ref a_n328) (ty := (.array .boolean)) (C := RX7) (T := TX7) (N := 72) (fs := fs3) hx hb hts iw_wsX7_init_X7 tyX7 tyX7_ok nmX7 hown hK hP hD hS 0 rfl rfl 52 (by decide) (hts (.fieldLink RX7 136 "BargeBasinModel" "keptWall" "[Z") (List.mem_of_getElem? (i := 50) (by decide +kernel))) (fun _ h9 => h9) rfl hin rfl (by decide +kernel) rfl rfl (by rw [hlen3]; decide) dX7_init_330 (fun H locs hP hD hS => ?_)
  replace hP : va_P D vwCl ((a_t, .inr (7, fs3.set 52 (.ref a_n328))) :: pl4) H := hP
  replace hD : va_D A ((a_t, .inr (7, fs3.set 52 (.ref a_n328))) :: pl4) := hD
  obtain ⟨fs4, efs4⟩ : ∃ z : List Value, z = fs3.set 52 (.ref a_n328) := ⟨_, rfl⟩
  rw [← efs4] at hP hD
  have hlen4 : fs4.length = 72 := by rw [efs4, List.length_set]; exact hlen3
  refine lv_aload_n hx hb dX7_init_333 rfl (lv_at hl 0 rfl) ?_
  refine lv_bipush (v := 48) hx hb dX7_init_334 (by decide) ?_
  refine jnewa (atype := .int) (t0 := 0) (ty := .int) (N2 := 48) (a0 := (48, .inl (fun _ => 0))) hx hb (hts (.arrayClass .int) (List.mem_of_getElem? (i := 4) (by decide +kernel))) rfl hK hP hD hS hA rfl (fun _ => rfl) (by decide) (by decide) (by decide) (Nat.le_of_ble_eq_true rfl) (Nat.le_of_ble_eq_true rfl) dX7_init_336 (fun a_n336 H hP hD hS => ?_)
  replace hP : va_P D vwCl ((a_t, .inr (7, fs4)) :: (jsn pl4 (a_n336, .inl (cT 0, 48, .inl (fun _ => 0))))) H := hP
  replace hD : va_D A ((a_t, .inr (7, fs4)) :: (jsn pl4 (a_n336, .inl (cT 0, 48, .inl (fun _ => 0))))) := hD
  obtain ⟨pl5, epl5⟩ : ∃ z : va_W, z = jsn pl4 (a_n336, .inl (cT 0, 48, .inl (fun _ => 0))) := ⟨_, rfl⟩
  rw [← epl5] at hP hD
  refine W.widen (k := 39) (n := 2181366) (Nat.le_of_ble_eq_true rfl) (Nat.le_of_ble_eq_true rfl) ?_
  refine va_putF (D := D) (ci := 7) (v := .ref a_n336) (ty := (.array .int)) (C := RX7) (T := TX7) (N := 72) (fs := fs4) hx hb hts iw_wsX7_init_X7 tyX7 tyX7_ok nmX7 hown hK hP hD hS 0 rfl rfl 53 (by decide) (hts (.fieldLink RX7 139 "BargeBasinModel" "keptKind" "[I") (List.mem_of_getElem? (i := 51) (by decide +kernel))) (fun _ h9 => h9) rfl hin rfl (by decide +kernel) rfl rfl (by rw [hlen4]; decide) dX7_init_338 (fun H locs hP hD hS => ?_)
  replace hP : va_P D vwCl ((a_t, .inr (7, fs4.set 53 (.ref a_n336))) :: pl5) H := hP
  replace hD : va_D A ((a_t, .inr (7, fs4.set 53 (.ref a_n336))) :: pl5) := hD
  obtain ⟨fs5, efs5⟩ : ∃ z : List Value, z = fs4.set 53 (.ref a_n336) := ⟨_, rfl⟩
  rw [← efs5] at hP hD
  have hlen5 : fs5.length = 72 := by rw [efs5, List.length_set]; exact hlen4
  refine lv_aload_n hx hb dX7_init_341 rfl (lv_at hl 0 rfl) ?_
  refine lv_bipush (v := 48) hx hb dX7_init_342 (by decide) ?_
  refine jnewa (atype := .int) (t0 := 0) (ty := .int) (N2 := 48) (a0 := (48, .inl (fun _ => 0))) hx hb (hts (.arrayClass .int) (List.mem_of_getElem? (i := 4) (by decide +kernel))) rfl hK hP hD hS hA rfl (fun _ => rfl) (by decide) (by decide) (by decide) (Nat.le_of_ble_eq_true rfl) (Nat.le_of_ble_eq_true rfl) dX7_init_344 (fun a_n344 H hP hD hS => ?_)
  replace hP : va_P D vwCl ((a_t, .inr (7, fs5)) :: (jsn pl5 (a_n344, .inl (cT 0, 48, .inl (fun _ => 0))))) H := hP
  replace hD : va_D A ((a_t, .inr (7, fs5)) :: (jsn pl5 (a_n344, .inl (cT 0, 48, .inl (fun _ => 0))))) := hD
  obtain ⟨pl6, epl6⟩ : ∃ z : va_W, z = jsn pl5 (a_n344, .inl (cT 0, 48, .inl (fun _ => 0))) := ⟨_, rfl⟩
  rw [← epl6] at hP hD
  refine W.widen (k := 40) (n := 2181414) (Nat.le_of_ble_eq_true rfl) (Nat.le_of_ble_eq_true rfl) ?_
  refine va_putF (D := D) (ci := 7) (v := .ref a_n344) (ty := (.array .int)) (C := RX7) (T := TX7) (N := 72) (fs := fs5) hx hb hts iw_wsX7_init_X7 tyX7 tyX7_ok nmX7 hown hK hP hD hS 0 rfl rfl 54 (by decide) (hts (.fieldLink RX7 142 "BargeBasinModel" "keptAt" "[I") (List.mem_of_getElem? (i := 52) (by decide +kernel))) (fun _ h9 => h9) rfl hin rfl (by decide +kernel) rfl rfl (by rw [hlen5]; decide) dX7_init_346 (fun H locs hP hD hS => ?_)
  replace hP : va_P D vwCl ((a_t, .inr (7, fs5.set 54 (.ref a_n344))) :: pl6) H := hP
  replace hD : va_D A ((a_t, .inr (7, fs5.set 54 (.ref a_n344))) :: pl6) := hD
  obtain ⟨fs6, efs6⟩ : ∃ z : List Value, z = fs5.set 54 (.ref a_n344) := ⟨_, rfl⟩
  rw [← efs6] at hP hD
  have hlen6 : fs6.length = 72 := by rw [efs6, List.length_set]; exact hlen5
  refine lv_aload_n hx hb dX7_init_349 rfl (lv_at hl 0 rfl) ?_
  refine lv_bipush (v := 48) hx hb dX7_init_350 (by decide) ?_
  refine jnewa (atype := .int) (t0 := 0) (ty := .int) (N2 := 48) (a0 := (48, .inl (fun _ => 0))) hx hb (hts (.arrayClass .int) (List.mem_of_getElem? (i := 4) (by decide +kernel))) rfl hK hP hD hS hA rfl (fun _ => rfl) (by decide) (by decide) (by decide) (Nat.le_of_ble_eq_true rfl) (Nat.le_of_ble_eq_true rfl) dX7_init_352 (fun a_n352 H hP hD hS => ?_)
  replace hP : va_P D vwCl ((a_t, .inr (7, fs6)) :: (jsn pl6 (a_n352, .inl (cT 0, 48, .inl (fun _ => 0))))) H := hP
  replace hD : va_D A ((a_t, .inr (7, fs6)) :: (jsn pl6 (a_n352, .inl (cT 0, 48, .inl (fun _ => 0))))) := hD
  obtain ⟨pl7, epl7⟩ : ∃ z : va_W, z = jsn pl6 (a_n352, .inl (cT 0, 48, .inl (fun _ => 0))) := ⟨_, rfl⟩
  rw [← epl7] at hP hD
  refine W.widen (k := 41) (n := 2181462) (Nat.le_of_ble_eq_true rfl) (Nat.le_of_ble_eq_true rfl) ?_
  refine va_putF (D := D) (ci := 7) (v := .ref a_n352) (ty := (.array .int)) (C := RX7) (T := TX7) (N := 72) (fs := fs6) hx hb hts iw_wsX7_init_X7 tyX7 tyX7_ok nmX7 hown hK hP hD hS 0 rfl rfl 55 (by decide) (hts (.fieldLink RX7 145 "BargeBasinModel" "keptSize" "[I") (List.mem_of_getElem? (i := 53) (by decide +kernel))) (fun _ h9 => h9) rfl hin rfl (by decide +kernel) rfl rfl (by rw [hlen6]; decide) dX7_init_354 (fun H locs hP hD hS => ?_)
  replace hP : va_P D vwCl ((a_t, .inr (7, fs6.set 55 (.ref a_n352))) :: pl7) H := hP
  replace hD : va_D A ((a_t, .inr (7, fs6.set 55 (.ref a_n352))) :: pl7) := hD
  obtain ⟨fs7, efs7⟩ : ∃ z : List Value, z = fs6.set 55 (.ref a_n352) := ⟨_, rfl⟩
  rw [← efs7] at hP hD
  have hlen7 : fs7.length = 72 := by rw [efs7, List.length_set]; exact hlen6
  refine lv_aload_n hx hb dX7_init_357 rfl (lv_at hl 0 rfl) ?_
  refine lv_bipush (v := 48) hx hb dX7_init_358 (by decide) ?_
  refine jnewa (atype := .int) (t0 := 0) (ty := .int) (N2 := 48) (a0 := (48, .inl (fun _ => 0))) hx hb (hts (.arrayClass .int) (List.mem_of_getElem? (i := 4) (by decide +kernel))) rfl hK hP hD hS hA rfl (fun _ => rfl) (by decide) (by decide) (by decide) (Nat.le_of_ble_eq_true rfl) (Nat.le_of_ble_eq_true rfl) dX7_init_360 (fun a_n360 H hP hD hS => ?_)
  replace hP : va_P D vwCl ((a_t, .inr (7, fs7)) :: (jsn pl7 (a_n360, .inl (cT 0, 48, .inl (fun _ => 0))))) H := hP
  replace hD : va_D A ((a_t, .inr (7, fs7)) :: (jsn pl7 (a_n360, .inl (cT 0, 48, .inl (fun _ => 0))))) := hD
  obtain ⟨pl8, epl8⟩ : ∃ z : va_W, z = jsn pl7 (a_n360, .inl (cT 0, 48, .inl (fun _ => 0))) := ⟨_, rfl⟩
  rw [← epl8] at hP hD
  refine W.widen (k := 42) (n := 2181510) (Nat.le_of_ble_eq_true rfl) (Nat.le_of_ble_eq_true rfl) ?_
  refine va_putF (D := D) (ci := 7) (v := .ref a_n360) (ty := (.array .int)) (C := RX7) (T := TX7) (N := 72) (fs := fs7) hx hb hts iw_wsX7_init_X7 tyX7 tyX7_ok nmX7 hown hK hP hD hS 0 rfl rfl 56 (by decide) (hts (.fieldLink RX7 148 "BargeBasinModel" "keptWay" "[I") (List.mem_of_getElem? (i := 54) (by decide +kernel))) (fun _ h9 => h9) rfl hin rfl (by decide +kernel) rfl rfl (by rw [hlen7]; decide) dX7_init_362 (fun H locs hP hD hS => ?_)
  replace hP : va_P D vwCl ((a_t, .inr (7, fs7.set 56 (.ref a_n360))) :: pl8) H := hP
  replace hD : va_D A ((a_t, .inr (7, fs7.set 56 (.ref a_n360))) :: pl8) := hD
  obtain ⟨fs8, efs8⟩ : ∃ z : List Value, z = fs7.set 56 (.ref a_n360) := ⟨_, rfl⟩
  rw [← efs8] at hP hD
  have hlen8 : fs8.length = 72 := by rw [efs8, List.length_set]; exact hlen7
  subst epl8
  subst epl7
  subst epl6
  subst epl5
  subst epl4
  subst epl3
  subst epl2
  subst epl1
  subst epl0
  subst efs8
  subst efs7
  subst efs6
  subst efs5
  subst efs4
  subst efs3
  subst efs2
  subst efs1
  subst efs0
  exact K _ _ _ _ _ _ _ _ _ _ _ hP hD hS
set_option maxHeartbeats 4000000 in
set_option maxRecDepth 100000 in
theorem mi_s5 {p : Program} {l : Launch} {e : Env} {s : State} {m : MethodId} {args : Array Value} {below : List Frame} {meth : Method} {c : Code} {Q : State → Prop} {A : Nat → Prop} {D : va_G} {cT : Nat → ClassId} {a_t : Nat} {ls : Array Slot} {H : Heap} {locs : List Loc} {pl : va_W} {fs : List Value} (hx : p.tables.exec = Jvm.exec) (hb : c.code = cX7_init) (hown : s.vm.findClass RX7 = some m.cls) (hts : ∀ w ∈ wsX7_init, w.before args s = true) (hK : va_K D vwCl (jT cT) s) (hA : ∀ q : Nat, s.heap.size ≤ q → A q) (hin : meth.name = "<init>") (hl : lv_has ls 1 [(0, .ref a_t)]) (hlen : fs.length = 72) (hP : va_P D vwCl ((a_t, .inr (7, fs)) :: pl) H) (hD : va_D A ((a_t, .inr (7, fs)) :: pl)) (hS : va_S A s.heap H locs) (K : ∀ (a_n368 a_n376 a_n384 a_n392 a_n400 a_n408 a_n416 a_n424 a_n432 : Nat) (H : Heap) (locs : List Loc), va_P D vwCl ((a_t, .inr (7, (((((((((fs.set 57 (.ref a_n368)).set 58 (.ref a_n376)).set 60 (.ref a_n384)).set 61 (.ref a_n392)).set 63 (.ref a_n400)).set 66 (.ref a_n408)).set 67 (.ref a_n416)).set 68 (.ref a_n424)).set 69 (.ref a_n432)))) :: (jsn (jsn (jsn (jsn (jsn (jsn (jsn (jsn (jsn pl (a_n368, .inl (cT 0, 48, .inl (fun _ => 0)))) (a_n376, .inl (cT 3, 8, .inl (fun _ => 0)))) (a_n384, .inl (cT 2, 12, .inl (fun _ => 0)))) (a_n392, .inl (cT 0, 8, .inl (fun _ => 0)))) (a_n400, .inl (cT 2, 64, .inl (fun _ => 0)))) (a_n408, .inl (cT 0, 12, .inl (fun _ => 0)))) (a_n416, .inl (cT 0, 12, .inl (fun _ => 0)))) (a_n424, .inl (cT 0, 12, .inl (fun _ => 0)))) (a_n432, .inl (cT 0, 12, .inl (fun _ => 0))))) H → va_D A ((a_t, .inr (7, (((((((((fs.set 57 (.ref a_n368)).set 58 (.ref a_n376)).set 60 (.ref a_n384)).set 61 (.ref a_n392)).set 63 (.ref a_n400)).set 66 (.ref a_n408)).set 67 (.ref a_n416)).set 68 (.ref a_n424)).set 69 (.ref a_n432)))) :: (jsn (jsn (jsn (jsn (jsn (jsn (jsn (jsn (jsn pl (a_n368, .inl (cT 0, 48, .inl (fun _ => 0)))) (a_n376, .inl (cT 3, 8, .inl (fun _ => 0)))) (a_n384, .inl (cT 2, 12, .inl (fun _ => 0)))) (a_n392, .inl (cT 0, 8, .inl (fun _ => 0)))) (a_n400, .inl (cT 2, 64, .inl (fun _ => 0)))) (a_n408, .inl (cT 0, 12, .inl (fun _ => 0)))) (a_n416, .inl (cT 0, 12, .inl (fun _ => 0)))) (a_n424, .inl (cT 0, 12, .inl (fun _ => 0)))) (a_n432, .inl (cT 0, 12, .inl (fun _ => 0))))) → va_S A s.heap H locs → W p l e (headSpec wsX7_init rm_BargeBasinModel_init).room s m args below meth c H locs 51 2181698 Q (F0 m 437 ls [])) : W p l e (headSpec wsX7_init rm_BargeBasinModel_init).room s m args below meth c H locs 42 2181510 Q (F0 m 365 ls []) := by
  refine lv_aload_n hx hb dX7_init_365 rfl (lv_at hl 0 rfl) ?_
  refine lv_bipush (v := 48) hx hb dX7_init_366 (by decide) ?_
  refine jnewa (atype := .int) (t0 := 0) (ty := .int) (N2 := 48) (a0 := (48, .inl (fun _ => 0))) hx hb (hts (.arrayClass .int) (List.mem_of_getElem? (i := 4) (by decide +kernel))) rfl hK hP hD hS hA rfl (fun _ => rfl) (by decide) (by decide) (by decide) (Nat.le_of_ble_eq_true rfl) (Nat.le_of_ble_eq_true rfl) dX7_init_368 (fun a_n368 H hP hD hS => ?_)
  replace hP : va_P D vwCl ((a_t, .inr (7, fs)) :: (jsn pl (a_n368, .inl (cT 0, 48, .inl (fun _ => 0))))) H := hP
  replace hD : va_D A ((a_t, .inr (7, fs)) :: (jsn pl (a_n368, .inl (cT 0, 48, .inl (fun _ => 0))))) := hD
  obtain ⟨pl0, epl0⟩ : ∃ z : va_W, z = jsn pl (a_n368, .inl (cT 0, 48, .inl (fun _ => 0))) := ⟨_, rfl⟩
  rw [← epl0] at hP hD
  refine W.widen (k := 43) (n := 2181558) (Nat.le_of_ble_eq_true rfl) (Nat.le_of_ble_eq_true rfl) ?_
  refine va_putF (D := D) (ci := 7) (v := .ref a_n368) (ty := (.array .int)) (C := RX7) (T := TX7) (N := 72) (fs := fs) hx hb hts iw_wsX7_init_X7 tyX7 tyX7_ok nmX7 hown hK hP hD hS 0 rfl rfl 57 (by decide) (hts (.fieldLink RX7 151 "BargeBasinModel" "keptGate" "[I") (List.mem_of_getElem? (i := 55) (by decide +kernel))) (fun _ h9 => h9) rfl hin rfl (by decide +kernel) rfl rfl (by rw [hlen]; decide) dX7_init_370 (fun H locs hP hD hS => ?_)
  replace hP : va_P D vwCl ((a_t, .inr (7, fs.set 57 (.ref a_n368))) :: pl0) H := hP
  replace hD : va_D A ((a_t, .inr (7, fs.set 57 (.ref a_n368))) :: pl0) := hD
  obtain ⟨fs0, efs0⟩ : ∃ z : List Value, z = fs.set 57 (.ref a_n368) := ⟨_, rfl⟩
  rw [← efs0] at hP hD
  have hlen0 : fs0.length = 72 := by rw [efs0, List.length_set]; exact hlen
  refine lv_aload_n hx hb dX7_init_373 rfl (lv_at hl 0 rfl) ?_
  refine lv_bipush (v := 8) hx hb dX7_init_374 (by decide) ?_
  refine jnewa (atype := .byte) (t0 := 3) (ty := .byte) (N2 := 8) (a0 := (8, .inl (fun _ => 0))) hx hb (hts (.arrayClass .byte) (List.mem_of_getElem? (i := 28) (by decide +kernel))) rfl hK hP hD hS hA rfl (fun _ => rfl) (by decide) (by decide) (by decide) (Nat.le_of_ble_eq_true rfl) (Nat.le_of_ble_eq_true rfl) dX7_init_376 (fun a_n376 H hP hD hS => ?_)
  replace hP : va_P D vwCl ((a_t, .inr (7, fs0)) :: (jsn pl0 (a_n376, .inl (cT 3, 8, .inl (fun _ => 0))))) H := hP
  replace hD : va_D A ((a_t, .inr (7, fs0)) :: (jsn pl0 (a_n376, .inl (cT 3, 8, .inl (fun _ => 0))))) := hD
  obtain ⟨pl1, epl1⟩ : ∃ z : va_W, z = jsn pl0 (a_n376, .inl (cT 3, 8, .inl (fun _ => 0))) := ⟨_, rfl⟩
  rw [← epl1] at hP hD
  refine W.widen (k := 44) (n := 2181566) (Nat.le_of_ble_eq_true rfl) (Nat.le_of_ble_eq_true rfl) ?_
  refine va_putF (D := D) (ci := 7) (v := .ref a_n376) (ty := (.array .byte)) (C := RX7) (T := TX7) (N := 72) (fs := fs0) hx hb hts iw_wsX7_init_X7 tyX7 tyX7_ok nmX7 hown hK hP hD hS 0 rfl rfl 58 (by decide) (hts (.fieldLink RX7 154 "BargeBasinModel" "out" "[B") (List.mem_of_getElem? (i := 56) (by decide +kernel))) (fun _ h9 => h9) rfl hin rfl (by decide +kernel) rfl rfl (by rw [hlen0]; decide) dX7_init_378 (fun H locs hP hD hS => ?_)
  replace hP : va_P D vwCl ((a_t, .inr (7, fs0.set 58 (.ref a_n376))) :: pl1) H := hP
  replace hD : va_D A ((a_t, .inr (7, fs0.set 58 (.ref a_n376))) :: pl1) := hD
  obtain ⟨fs1, efs1⟩ : ∃ z : List Value, z = fs0.set 58 (.ref a_n376) := ⟨_, rfl⟩
  rw [← efs1] at hP hD
  have hlen1 : fs1.length = 72 := by rw [efs1, List.length_set]; exact hlen0
  refine lv_aload_n hx hb dX7_init_381 rfl (lv_at hl 0 rfl) ?_
  refine lv_bipush (v := 12) hx hb dX7_init_382 (by decide) ?_
  refine jnewa (atype := .boolean) (t0 := 2) (ty := .boolean) (N2 := 12) (a0 := (12, .inl (fun _ => 0))) hx hb (hts (.arrayClass .boolean) (List.mem_of_getElem? (i := 8) (by decide +kernel))) rfl hK hP hD hS hA rfl (fun _ => rfl) (by decide) (by decide) (by decide) (Nat.le_of_ble_eq_true rfl) (Nat.le_of_ble_eq_true rfl) dX7_init_384 (fun a_n384 H hP hD hS => ?_)
  replace hP : va_P D vwCl ((a_t, .inr (7, fs1)) :: (jsn pl1 (a_n384, .inl (cT 2, 12, .inl (fun _ => 0))))) H := hP
  replace hD : va_D A ((a_t, .inr (7, fs1)) :: (jsn pl1 (a_n384, .inl (cT 2, 12, .inl (fun _ => 0))))) := hD
  obtain ⟨pl2, epl2⟩ : ∃ z : va_W, z = jsn pl1 (a_n384, .inl (cT 2, 12, .inl (fun _ => 0))) := ⟨_, rfl⟩
  rw [← epl2] at hP hD
  refine W.widen (k := 45) (n := 2181578) (Nat.le_of_ble_eq_true rfl) (Nat.le_of_ble_eq_true rfl) ?_
  refine va_putF (D := D) (ci := 7) (v := .ref a_n384) (ty := (.array .boolean)) (C := RX7) (T := TX7) (N := 72) (fs := fs1) hx hb hts iw_wsX7_init_X7 tyX7 tyX7_ok nmX7 hown hK hP hD hS 0 rfl rfl 60 (by decide) (hts (.fieldLink RX7 157 "BargeBasinModel" "counts" "[Z") (List.mem_of_getElem? (i := 57) (by decide +kernel))) (fun _ h9 => h9) rfl hin rfl (by decide +kernel) rfl rfl (by rw [hlen1]; decide) dX7_init_386 (fun H locs hP hD hS => ?_)
  replace hP : va_P D vwCl ((a_t, .inr (7, fs1.set 60 (.ref a_n384))) :: pl2) H := hP
  replace hD : va_D A ((a_t, .inr (7, fs1.set 60 (.ref a_n384))) :: pl2) := hD
  obtain ⟨fs2, efs2⟩ : ∃ z : List Value, z = fs1.set 60 (.ref a_n384) := ⟨_, rfl⟩
  rw [← efs2] at hP hD
  have hlen2 : fs2.length = 72 := by rw [efs2, List.length_set]; exact hlen1
  refine lv_aload_n hx hb dX7_init_389 rfl (lv_at hl 0 rfl) ?_
  refine lv_bipush (v := 8) hx hb dX7_init_390 (by decide) ?_
  refine jnewa (atype := .int) (t0 := 0) (ty := .int) (N2 := 8) (a0 := (8, .inl (fun _ => 0))) hx hb (hts (.arrayClass .int) (List.mem_of_getElem? (i := 4) (by decide +kernel))) rfl hK hP hD hS hA rfl (fun _ => rfl) (by decide) (by decide) (by decide) (Nat.le_of_ble_eq_true rfl) (Nat.le_of_ble_eq_true rfl) dX7_init_392 (fun a_n392 H hP hD hS => ?_)
  replace hP : va_P D vwCl ((a_t, .inr (7, fs2)) :: (jsn pl2 (a_n392, .inl (cT 0, 8, .inl (fun _ => 0))))) H := hP
  replace hD : va_D A ((a_t, .inr (7, fs2)) :: (jsn pl2 (a_n392, .inl (cT 0, 8, .inl (fun _ => 0))))) := hD
  obtain ⟨pl3, epl3⟩ : ∃ z : va_W, z = jsn pl2 (a_n392, .inl (cT 0, 8, .inl (fun _ => 0))) := ⟨_, rfl⟩
  rw [← epl3] at hP hD
  refine W.widen (k := 46) (n := 2181586) (Nat.le_of_ble_eq_true rfl) (Nat.le_of_ble_eq_true rfl) ?_
  refine va_putF (D := D) (ci := 7) (v := .ref a_n392) (ty := (.array .int)) (C := RX7) (T := TX7) (N := 72) (fs := fs2) hx hb hts iw_wsX7_init_X7 tyX7 tyX7_ok nmX7 hown hK hP hD hS 0 rfl rfl 61 (by decide) (hts (.fieldLink RX7 160 "BargeBasinModel" "oldNumbers" "[I") (List.mem_of_getElem? (i := 58) (by decide +kernel))) (fun _ h9 => h9) rfl hin rfl (by decide +kernel) rfl rfl (by rw [hlen2]; decide) dX7_init_394 (fun H locs hP hD hS => ?_)
  replace hP : va_P D vwCl ((a_t, .inr (7, fs2.set 61 (.ref a_n392))) :: pl3) H := hP
  replace hD : va_D A ((a_t, .inr (7, fs2.set 61 (.ref a_n392))) :: pl3) := hD
  obtain ⟨fs3, efs3⟩ : ∃ z : List Value, z = fs2.set 61 (.ref a_n392) := ⟨_, rfl⟩
  rw [← efs3] at hP hD
  have hlen3 : fs3.length = 72 := by rw [efs3, List.length_set]; exact hlen2
  refine lv_aload_n hx hb dX7_init_397 rfl (lv_at hl 0 rfl) ?_
  refine lv_bipush (v := 64) hx hb dX7_init_398 (by decide) ?_
  refine jnewa (atype := .boolean) (t0 := 2) (ty := .boolean) (N2 := 64) (a0 := (64, .inl (fun _ => 0))) hx hb (hts (.arrayClass .boolean) (List.mem_of_getElem? (i := 8) (by decide +kernel))) rfl hK hP hD hS hA rfl (fun _ => rfl) (by decide) (by decide) (by decide) (Nat.le_of_ble_eq_true rfl) (Nat.le_of_ble_eq_true rfl) dX7_init_400 (fun a_n400 H hP hD hS => ?_)
  replace hP : va_P D vwCl ((a_t, .inr (7, fs3)) :: (jsn pl3 (a_n400, .inl (cT 2, 64, .inl (fun _ => 0))))) H := hP
  replace hD : va_D A ((a_t, .inr (7, fs3)) :: (jsn pl3 (a_n400, .inl (cT 2, 64, .inl (fun _ => 0))))) := hD
  obtain ⟨pl4, epl4⟩ : ∃ z : va_W, z = jsn pl3 (a_n400, .inl (cT 2, 64, .inl (fun _ => 0))) := ⟨_, rfl⟩
  rw [← epl4] at hP hD
  refine W.widen (k := 47) (n := 2181650) (Nat.le_of_ble_eq_true rfl) (Nat.le_of_ble_eq_true rfl) ?_
  refine va_putF (D := D) (ci := 7) (v := .ref a_n400) (ty := (.array .boolean)) (C := RX7) (T := TX7) (N := 72) (fs := fs3) hx hb hts iw_wsX7_init_X7 tyX7 tyX7_ok nmX7 hown hK hP hD hS 0 rfl rfl 63 (by decide) (hts (.fieldLink RX7 163 "BargeBasinModel" "newWall" "[Z") (List.mem_of_getElem? (i := 59) (by decide +kernel))) (fun _ h9 => h9) rfl hin rfl (by decide +kernel) rfl rfl (by rw [hlen3]; decide) dX7_init_402 (fun H locs hP hD hS => ?_)
  replace hP : va_P D vwCl ((a_t, .inr (7, fs3.set 63 (.ref a_n400))) :: pl4) H := hP
  replace hD : va_D A ((a_t, .inr (7, fs3.set 63 (.ref a_n400))) :: pl4) := hD
  obtain ⟨fs4, efs4⟩ : ∃ z : List Value, z = fs3.set 63 (.ref a_n400) := ⟨_, rfl⟩
  rw [← efs4] at hP hD
  have hlen4 : fs4.length = 72 := by rw [efs4, List.length_set]; exact hlen3
  refine lv_aload_n hx hb dX7_init_405 rfl (lv_at hl 0 rfl) ?_
  refine lv_bipush (v := 12) hx hb dX7_init_406 (by decide) ?_
  refine jnewa (atype := .int) (t0 := 0) (ty := .int) (N2 := 12) (a0 := (12, .inl (fun _ => 0))) hx hb (hts (.arrayClass .int) (List.mem_of_getElem? (i := 4) (by decide +kernel))) rfl hK hP hD hS hA rfl (fun _ => rfl) (by decide) (by decide) (by decide) (Nat.le_of_ble_eq_true rfl) (Nat.le_of_ble_eq_true rfl) dX7_init_408 (fun a_n408 H hP hD hS => ?_)
  replace hP : va_P D vwCl ((a_t, .inr (7, fs4)) :: (jsn pl4 (a_n408, .inl (cT 0, 12, .inl (fun _ => 0))))) H := hP
  replace hD : va_D A ((a_t, .inr (7, fs4)) :: (jsn pl4 (a_n408, .inl (cT 0, 12, .inl (fun _ => 0))))) := hD
  obtain ⟨pl5, epl5⟩ : ∃ z : va_W, z = jsn pl4 (a_n408, .inl (cT 0, 12, .inl (fun _ => 0))) := ⟨_, rfl⟩
  rw [← epl5] at hP hD
  refine W.widen (k := 48) (n := 2181662) (Nat.le_of_ble_eq_true rfl) (Nat.le_of_ble_eq_true rfl) ?_
  refine va_putF (D := D) (ci := 7) (v := .ref a_n408) (ty := (.array .int)) (C := RX7) (T := TX7) (N := 72) (fs := fs4) hx hb hts iw_wsX7_init_X7 tyX7 tyX7_ok nmX7 hown hK hP hD hS 0 rfl rfl 66 (by decide) (hts (.fieldLink RX7 166 "BargeBasinModel" "asAt" "[I") (List.mem_of_getElem? (i := 60) (by decide +kernel))) (fun _ h9 => h9) rfl hin rfl (by decide +kernel) rfl rfl (by rw [hlen4]; decide) dX7_init_410 (fun H locs hP hD hS => ?_)
  replace hP : va_P D vwCl ((a_t, .inr (7, fs4.set 66 (.ref a_n408))) :: pl5) H := hP
  replace hD : va_D A ((a_t, .inr (7, fs4.set 66 (.ref a_n408))) :: pl5) := hD
  obtain ⟨fs5, efs5⟩ : ∃ z : List Value, z = fs4.set 66 (.ref a_n408) := ⟨_, rfl⟩
  rw [← efs5] at hP hD
  have hlen5 : fs5.length = 72 := by rw [efs5, List.length_set]; exact hlen4
  refine lv_aload_n hx hb dX7_init_413 rfl (lv_at hl 0 rfl) ?_
  refine lv_bipush (v := 12) hx hb dX7_init_414 (by decide) ?_
  refine jnewa (atype := .int) (t0 := 0) (ty := .int) (N2 := 12) (a0 := (12, .inl (fun _ => 0))) hx hb (hts (.arrayClass .int) (List.mem_of_getElem? (i := 4) (by decide +kernel))) rfl hK hP hD hS hA rfl (fun _ => rfl) (by decide) (by decide) (by decide) (Nat.le_of_ble_eq_true rfl) (Nat.le_of_ble_eq_true rfl) dX7_init_416 (fun a_n416 H hP hD hS => ?_)
  replace hP : va_P D vwCl ((a_t, .inr (7, fs5)) :: (jsn pl5 (a_n416, .inl (cT 0, 12, .inl (fun _ => 0))))) H := hP
  replace hD : va_D A ((a_t, .inr (7, fs5)) :: (jsn pl5 (a_n416, .inl (cT 0, 12, .inl (fun _ => 0))))) := hD
  obtain ⟨pl6, epl6⟩ : ∃ z : va_W, z = jsn pl5 (a_n416, .inl (cT 0, 12, .inl (fun _ => 0))) := ⟨_, rfl⟩
  rw [← epl6] at hP hD
  refine W.widen (k := 49) (n := 2181674) (Nat.le_of_ble_eq_true rfl) (Nat.le_of_ble_eq_true rfl) ?_
  refine va_putF (D := D) (ci := 7) (v := .ref a_n416) (ty := (.array .int)) (C := RX7) (T := TX7) (N := 72) (fs := fs5) hx hb hts iw_wsX7_init_X7 tyX7 tyX7_ok nmX7 hown hK hP hD hS 0 rfl rfl 67 (by decide) (hts (.fieldLink RX7 169 "BargeBasinModel" "asGate" "[I") (List.mem_of_getElem? (i := 61) (by decide +kernel))) (fun _ h9 => h9) rfl hin rfl (by decide +kernel) rfl rfl (by rw [hlen5]; decide) dX7_init_418 (fun H locs hP hD hS => ?_)
  replace hP : va_P D vwCl ((a_t, .inr (7, fs5.set 67 (.ref a_n416))) :: pl6) H := hP
  replace hD : va_D A ((a_t, .inr (7, fs5.set 67 (.ref a_n416))) :: pl6) := hD
  obtain ⟨fs6, efs6⟩ : ∃ z : List Value, z = fs5.set 67 (.ref a_n416) := ⟨_, rfl⟩
  rw [← efs6] at hP hD
  have hlen6 : fs6.length = 72 := by rw [efs6, List.length_set]; exact hlen5
  refine lv_aload_n hx hb dX7_init_421 rfl (lv_at hl 0 rfl) ?_
  refine lv_bipush (v := 12) hx hb dX7_init_422 (by decide) ?_
  refine jnewa (atype := .int) (t0 := 0) (ty := .int) (N2 := 12) (a0 := (12, .inl (fun _ => 0))) hx hb (hts (.arrayClass .int) (List.mem_of_getElem? (i := 4) (by decide +kernel))) rfl hK hP hD hS hA rfl (fun _ => rfl) (by decide) (by decide) (by decide) (Nat.le_of_ble_eq_true rfl) (Nat.le_of_ble_eq_true rfl) dX7_init_424 (fun a_n424 H hP hD hS => ?_)
  replace hP : va_P D vwCl ((a_t, .inr (7, fs6)) :: (jsn pl6 (a_n424, .inl (cT 0, 12, .inl (fun _ => 0))))) H := hP
  replace hD : va_D A ((a_t, .inr (7, fs6)) :: (jsn pl6 (a_n424, .inl (cT 0, 12, .inl (fun _ => 0))))) := hD
  obtain ⟨pl7, epl7⟩ : ∃ z : va_W, z = jsn pl6 (a_n424, .inl (cT 0, 12, .inl (fun _ => 0))) := ⟨_, rfl⟩
  rw [← epl7] at hP hD
  refine W.widen (k := 50) (n := 2181686) (Nat.le_of_ble_eq_true rfl) (Nat.le_of_ble_eq_true rfl) ?_
  refine va_putF (D := D) (ci := 7) (v := .ref a_n424) (ty := (.array .int)) (C := RX7) (T := TX7) (N := 72) (fs := fs6) hx hb hts iw_wsX7_init_X7 tyX7 tyX7_ok nmX7 hown hK hP hD hS 0 rfl rfl 68 (by decide) (hts (.fieldLink RX7 172 "BargeBasinModel" "asWay" "[I") (List.mem_of_getElem? (i := 62) (by decide +kernel))) (fun _ h9 => h9) rfl hin rfl (by decide +kernel) rfl rfl (by rw [hlen6]; decide) dX7_init_426 (fun H locs hP hD hS => ?_)
  replace hP : va_P D vwCl ((a_t, .inr (7, fs6.set 68 (.ref a_n424))) :: pl7) H := hP
  replace hD : va_D A ((a_t, .inr (7, fs6.set 68 (.ref a_n424))) :: pl7) := hD
  obtain ⟨fs7, efs7⟩ : ∃ z : List Value, z = fs6.set 68 (.ref a_n424) := ⟨_, rfl⟩
  rw [← efs7] at hP hD
  have hlen7 : fs7.length = 72 := by rw [efs7, List.length_set]; exact hlen6
  refine lv_aload_n hx hb dX7_init_429 rfl (lv_at hl 0 rfl) ?_
  refine lv_bipush (v := 12) hx hb dX7_init_430 (by decide) ?_
  refine jnewa (atype := .int) (t0 := 0) (ty := .int) (N2 := 12) (a0 := (12, .inl (fun _ => 0))) hx hb (hts (.arrayClass .int) (List.mem_of_getElem? (i := 4) (by decide +kernel))) rfl hK hP hD hS hA rfl (fun _ => rfl) (by decide) (by decide) (by decide) (Nat.le_of_ble_eq_true rfl) (Nat.le_of_ble_eq_true rfl) dX7_init_432 (fun a_n432 H hP hD hS => ?_)
  replace hP : va_P D vwCl ((a_t, .inr (7, fs7)) :: (jsn pl7 (a_n432, .inl (cT 0, 12, .inl (fun _ => 0))))) H := hP
  replace hD : va_D A ((a_t, .inr (7, fs7)) :: (jsn pl7 (a_n432, .inl (cT 0, 12, .inl (fun _ => 0))))) := hD
  obtain ⟨pl8, epl8⟩ : ∃ z : va_W, z = jsn pl7 (a_n432, .inl (cT 0, 12, .inl (fun _ => 0))) := ⟨_, rfl⟩
  rw [← epl8] at hP hD
  refine W.widen (k := 51) (n := 2181698) (Nat.le_of_ble_eq_true rfl) (Nat.le_of_ble_eq_true rfl) ?_
  refine va_putF (D := D) (ci := 7) (v := .ref a_n432) (ty := (.array .int)) (C := RX7) (T := TX7) (N := 72) (fs := fs7) hx hb hts iw_wsX7_init_X7 tyX7 tyX7_ok nmX7 hown hK hP hD hS 0 rfl rfl 69 (by decide) (hts (.fieldLink RX7 175 "BargeBasinModel" "asWide" "[I") (List.mem_of_getElem? (i := 63) (by decide +kernel))) (fun _ h9 => h9) rfl hin rfl (by decide +kernel) rfl rfl (by rw [hlen7]; decide) dX7_init_434 (fun H locs hP hD hS => ?_)
  replace hP : va_P D vwCl ((a_t, .inr (7, fs7.set 69 (.ref a_n432))) :: pl8) H := hP
  replace hD : va_D A ((a_t, .inr (7, fs7.set 69 (.ref a_n432))) :: pl8) := hD
  obtain ⟨fs8, efs8⟩ : ∃ z : List Value, z = fs7.set 69 (.ref a_n432) := ⟨_, rfl⟩
  rw [← efs8] at hP hD
  have hlen8 : fs8.length = 72 := by rw [efs8, List.length_set]; exact hlen7
  subst epl8
  subst epl7
  subst epl6
  subst epl5
  subst epl4
  subst epl3
  subst epl2
  subst epl1
  subst epl0
  subst efs8
  subst efs7
  subst efs6
  subst efs5
  subst efs4
  subst efs3
  subst efs2
  subst efs1
  subst efs0
  exact K _ _ _ _ _ _ _ _ _ _ _ hP hD hS
set_option maxHeartbeats 4000000 in
set_option maxRecDepth 100000 in
theorem mi_s6 {p : Program} {l : Launch} {e : Env} {s : State} {m : MethodId} {args : Array Value} {below : List Frame} {meth : Method} {c : Code} {Q : State → Prop} {A : Nat → Prop} {D : va_G} {cT : Nat → ClassId} {a_t : Nat} {ls : Array Slot} {H : Heap} {locs : List Loc} {pl : va_W} {fs : List Value} (hx : p.tables.exec = Jvm.exec) (hb : c.code = cX7_init) (hown : s.vm.findClass RX7 = some m.cls) (hts : ∀ w ∈ wsX7_init, w.before args s = true) (hK : va_K D vwCl (jT cT) s) (hA : ∀ q : Nat, s.heap.size ≤ q → A q) (hin : meth.name = "<init>") (hl : lv_has ls 1 [(0, .ref a_t)]) (hlen : fs.length = 72) (hP : va_P D vwCl ((a_t, .inr (7, fs)) :: pl) H) (hD : va_D A ((a_t, .inr (7, fs)) :: pl)) (hS : va_S A s.heap H locs) (K : ∀ (a_n440 a_n448 : Nat) (H : Heap) (locs : List Loc), va_P D vwCl ((a_t, .inr (7, ((fs.set 70 (.ref a_n440)).set 71 (.ref a_n448)))) :: (jsn (jsn pl (a_n440, .inl (cT 0, 12, .inl (fun _ => 0)))) (a_n448, .inl (cT 2, 64, .inl (fun _ => 0))))) H → va_D A ((a_t, .inr (7, ((fs.set 70 (.ref a_n440)).set 71 (.ref a_n448)))) :: (jsn (jsn pl (a_n440, .inl (cT 0, 12, .inl (fun _ => 0)))) (a_n448, .inl (cT 2, 64, .inl (fun _ => 0))))) → va_S A s.heap H locs → W p l e (headSpec wsX7_init rm_BargeBasinModel_init).room s m args below meth c H locs 53 2181774 Q (F0 m 453 ls [])) : W p l e (headSpec wsX7_init rm_BargeBasinModel_init).room s m args below meth c H locs 51 2181698 Q (F0 m 437 ls []) := by
  refine lv_aload_n hx hb dX7_init_437 rfl (lv_at hl 0 rfl) ?_
  refine lv_bipush (v := 12) hx hb dX7_init_438 (by decide) ?_
  refine jnewa (atype := .int) (t0 := 0) (ty := .int) (N2 := 12) (a0 := (12, .inl (fun _ => 0))) hx hb (hts (.arrayClass .int) (List.mem_of_getElem? (i := 4) (by decide +kernel))) rfl hK hP hD hS hA rfl (fun _ => rfl) (by decide) (by decide) (by decide) (Nat.le_of_ble_eq_true rfl) (Nat.le_of_ble_eq_true rfl) dX7_init_440 (fun a_n440 H hP hD hS => ?_)
  replace hP : va_P D vwCl ((a_t, .inr (7, fs)) :: (jsn pl (a_n440, .inl (cT 0, 12, .inl (fun _ => 0))))) H := hP
  replace hD : va_D A ((a_t, .inr (7, fs)) :: (jsn pl (a_n440, .inl (cT 0, 12, .inl (fun _ => 0))))) := hD
  obtain ⟨pl0, epl0⟩ : ∃ z : va_W, z = jsn pl (a_n440, .inl (cT 0, 12, .inl (fun _ => 0))) := ⟨_, rfl⟩
  rw [← epl0] at hP hD
  refine W.widen (k := 52) (n := 2181710) (Nat.le_of_ble_eq_true rfl) (Nat.le_of_ble_eq_true rfl) ?_
  refine va_putF (D := D) (ci := 7) (v := .ref a_n440) (ty := (.array .int)) (C := RX7) (T := TX7) (N := 72) (fs := fs) hx hb hts iw_wsX7_init_X7 tyX7 tyX7_ok nmX7 hown hK hP hD hS 0 rfl rfl 70 (by decide) (hts (.fieldLink RX7 178 "BargeBasinModel" "asTall" "[I") (List.mem_of_getElem? (i := 64) (by decide +kernel))) (fun _ h9 => h9) rfl hin rfl (by decide +kernel) rfl rfl (by rw [hlen]; decide) dX7_init_442 (fun H locs hP hD hS => ?_)
  replace hP : va_P D vwCl ((a_t, .inr (7, fs.set 70 (.ref a_n440))) :: pl0) H := hP
  replace hD : va_D A ((a_t, .inr (7, fs.set 70 (.ref a_n440))) :: pl0) := hD
  obtain ⟨fs0, efs0⟩ : ∃ z : List Value, z = fs.set 70 (.ref a_n440) := ⟨_, rfl⟩
  rw [← efs0] at hP hD
  have hlen0 : fs0.length = 72 := by rw [efs0, List.length_set]; exact hlen
  refine lv_aload_n hx hb dX7_init_445 rfl (lv_at hl 0 rfl) ?_
  refine lv_bipush (v := 64) hx hb dX7_init_446 (by decide) ?_
  refine jnewa (atype := .boolean) (t0 := 2) (ty := .boolean) (N2 := 64) (a0 := (64, .inl (fun _ => 0))) hx hb (hts (.arrayClass .boolean) (List.mem_of_getElem? (i := 8) (by decide +kernel))) rfl hK hP hD hS hA rfl (fun _ => rfl) (by decide) (by decide) (by decide) (Nat.le_of_ble_eq_true rfl) (Nat.le_of_ble_eq_true rfl) dX7_init_448 (fun a_n448 H hP hD hS => ?_)
  replace hP : va_P D vwCl ((a_t, .inr (7, fs0)) :: (jsn pl0 (a_n448, .inl (cT 2, 64, .inl (fun _ => 0))))) H := hP
  replace hD : va_D A ((a_t, .inr (7, fs0)) :: (jsn pl0 (a_n448, .inl (cT 2, 64, .inl (fun _ => 0))))) := hD
  obtain ⟨pl1, epl1⟩ : ∃ z : va_W, z = jsn pl0 (a_n448, .inl (cT 2, 64, .inl (fun _ => 0))) := ⟨_, rfl⟩
  rw [← epl1] at hP hD
  refine W.widen (k := 53) (n := 2181774) (Nat.le_of_ble_eq_true rfl) (Nat.le_of_ble_eq_true rfl) ?_
  refine va_putF (D := D) (ci := 7) (v := .ref a_n448) (ty := (.array .boolean)) (C := RX7) (T := TX7) (N := 72) (fs := fs0) hx hb hts iw_wsX7_init_X7 tyX7 tyX7_ok nmX7 hown hK hP hD hS 0 rfl rfl 71 (by decide) (hts (.fieldLink RX7 181 "BargeBasinModel" "asWall" "[Z") (List.mem_of_getElem? (i := 65) (by decide +kernel))) (fun _ h9 => h9) rfl hin rfl (by decide +kernel) rfl rfl (by rw [hlen0]; decide) dX7_init_450 (fun H locs hP hD hS => ?_)
  replace hP : va_P D vwCl ((a_t, .inr (7, fs0.set 71 (.ref a_n448))) :: pl1) H := hP
  replace hD : va_D A ((a_t, .inr (7, fs0.set 71 (.ref a_n448))) :: pl1) := hD
  obtain ⟨fs1, efs1⟩ : ∃ z : List Value, z = fs0.set 71 (.ref a_n448) := ⟨_, rfl⟩
  rw [← efs1] at hP hD
  have hlen1 : fs1.length = 72 := by rw [efs1, List.length_set]; exact hlen0
  refine W.widen (k := 53) (n := 2181774) (Nat.le_of_ble_eq_true rfl) (Nat.le_of_ble_eq_true rfl) ?_
  subst epl1
  subst epl0
  subst efs1
  subst efs0
  exact K _ _ _ _ hP hD hS
