abbrev rm_BargeBasinModel_turned : Room := { frames := 0, cells := 0, slots := 0, locals := 0 }
set_option maxHeartbeats 4000000 in
set_option maxRecDepth 100000 in
theorem c_f_BargeBasinModel_turned (l : Launch) (D : va_G) (cT : Nat → ClassId) (v0 : Int32) (v1 : Int32) (v2 : Int32) (v3 : Int32) (v4 : Int32) (v5 : Int32) (r0 : Int32) (hf : f_BargeBasinModel_turned v0 v1 v2 v3 v4 v5 = some r0) : Met l yX7_turned wsX7_turned rm_BargeBasinModel_turned (va_Pc [.int v0, .int v1, .int v2, .int v3, .int v4, .int v5] (fun U => True)) (vp_Si (fun r => r = r0)) 0 0 (fun _ => False) := by
  refine Met.ofW (cc := cX7_turned) (maxL := 8) (ret := (some .int)) (by decide) rfl ?_
  intro p e s m args below meth c s₁ B hml hv
  obtain ⟨rfl, -⟩ := hv
  have hx := B.exec
  have hb := B.bytes
  have hr := B.returns
  have hts := atoms_spec (ws := wsX7_turned) B.pre
  have hown : s.vm.findClass RX7 = some m.cls := findClass_of_methodNamed B.named
  have hlocks := B.notSynchronized
  have hl := lv_entry ([.int v0, .int v1, .int v2, .int v3, .int v4, .int v5]) (n := 8) (Nat.le_of_ble_eq_true rfl)
  rw [lg_entry_eq]
  generalize (lg_sl ([.int v0, .int v1, .int v2, .int v3, .int v4, .int v5]) ++ List.replicate (8 - (lg_sl ([.int v0, .int v1, .int v2, .int v3, .int v4, .int v5])).length) Slot.unset).toArray = ls at hl ⊢
  have hl : lv_has ls 8 [(0, .int v0), (1, .int v1), (2, .int v2), (3, .int v3), (4, .int v4), (5, .int v5)] := hl
  unfold f_BargeBasinModel_turned at hf
  refine lv_iload_n hx hb dX7_turned_0 rfl (lv_at hl 0 rfl) ?_
  refine lv_bipush (v := 8) hx hb dX7_turned_1 (by decide) ?_
  replace hf := ob_div hf
  obtain ⟨hd_1, hf⟩ := hf
  refine lv_irem hx hb dX7_turned_3 hd_1 ?_
  refine lv_topi (fun v6_2 ev6_2 => ?_)
  replace hf := ob_nm ev6_2 hf
  refine lv_istore (lv' := [(6, .int v6_2), (0, .int v0), (1, .int v1), (2, .int v2), (3, .int v3), (4, .int v4), (5, .int v5)]) hx hb dX7_turned_4 hl (by decide) rfl (fun ls hl => ?_)
  refine lv_iload_n hx hb dX7_turned_6 rfl (lv_at hl 1 rfl) ?_
  refine lv_bipush (v := 8) hx hb dX7_turned_7 (by decide) ?_
  replace hf := ob_div hf
  obtain ⟨hd_3, hf⟩ := hf
  refine lv_idiv hx hb dX7_turned_9 hd_3 ?_
  refine lv_topi (fun v7_4 ev7_4 => ?_)
  replace hf := ob_nm ev7_4 hf
  refine lv_istore (lv' := [(7, .int v7_4), (6, .int v6_2), (0, .int v0), (1, .int v1), (2, .int v2), (3, .int v3), (4, .int v4), (5, .int v5)]) hx hb dX7_turned_10 hl (by decide) rfl (fun ls hl => ?_)
  refine lv_iload hx hb dX7_turned_12 (lv_at hl 7 rfl) ?_
  refine lv_if_eq (tgt := 32) hx hb dX7_turned_14 (by decide) (fun c_5 => ?_) (fun c_5 => ?_)
  · replace hf := ob_pos c_5 hf
    refine lv_iload hx hb dX7_turned_32 (lv_at hl 6 rfl) ?_
    refine lv_iload hx hb dX7_turned_34 (lv_at hl 0 rfl) ?_
    refine lv_isub hx hb dX7_turned_36 ?_
    refine lv_iload_n hx hb dX7_turned_37 rfl (lv_at hl 4 rfl) ?_
    refine lv_isub hx hb dX7_turned_38 ?_
    refine lv_bipush (v := 8) hx hb dX7_turned_39 (by decide) ?_
    refine lv_iload hx hb dX7_turned_41 (lv_at hl 1 rfl) ?_
    refine lv_imul hx hb dX7_turned_43 ?_
    refine lv_iadd hx hb dX7_turned_44 ?_
    cases hf
    exact W.iret hx hb hr (fun t ht hW => ⟨_, rfl, rfl, ht⟩) (fun q h => by cases h) dX7_turned_45
  · replace hf := ob_neg c_5 hf
    refine lv_iload_n hx hb dX7_turned_17 rfl (lv_at hl 5 rfl) ?_
    refine lv_iload hx hb dX7_turned_18 (lv_at hl 1 rfl) ?_
    refine lv_isub hx hb dX7_turned_20 ?_
    refine lv_iload_n hx hb dX7_turned_21 rfl (lv_at hl 3 rfl) ?_
    refine lv_isub hx hb dX7_turned_22 ?_
    refine lv_bipush (v := 8) hx hb dX7_turned_23 (by decide) ?_
    refine lv_iload hx hb dX7_turned_25 (lv_at hl 0 rfl) ?_
    refine lv_imul hx hb dX7_turned_27 ?_
    refine lv_iadd hx hb dX7_turned_28 ?_
    refine lv_goto (tgt := 45) hx hb dX7_turned_29 (by decide) ?_
    cases hf
    exact W.iret hx hb hr (fun t ht hW => ⟨_, rfl, rfl, ht⟩) (fun q h => by cases h) dX7_turned_45
