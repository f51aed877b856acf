/-! out(): the class's, where it answers and where it throws; the law's helper that catches. Printed by wip/law/out.py. -/
theorem iw_wsX6_out_X6 : ∀ w ∈ wsX60, w ∈ wsX6_out := fun _ h => List.mem_cons_of_mem _ (List.mem_append_left _ (List.mem_append_right _ h))
abbrev rm_xout : Room := { frames := 0, cells := 0, slots := 0, locals := 0 }
abbrev rm_xthrow : Room := { frames := 6, cells := 1, slots := 6, locals := 81 }
theorem jl_keep {D : va_G} {cl : List vw_C} {ws : va_W} {H H1 : Heap} (hP : va_P D cl ws H) (h : ∀ q : Nat, q < H.size → H1[q]? = H[q]?) : va_P D cl ws H1 := fun k q hk => (hP k q hk).kept (h q.1 (hP k q hk).lt)
/-- the throw's words that no list of words holds -/
def jThr : List Cond := (vx_at0 RX6 325 "java/util/NoSuchElementException" ["java/lang/RuntimeException", "java/lang/Exception"]).filter (fun w => !goodWord w)
def jIsT : Cond → Bool
  | .castable _ _ => true
  | .declares _ => true
  | _ => false
theorem jThr_ok : jThr.all jIsT = true := by decide +kernel
def jTw (U : State) : Prop := ∀ w ∈ jThr, va_Nw w U
theorem jT_on {w : Cond} (h : jIsT w = true) : w.onTables = true := by
  cases w <;> first | rfl | (cases h; done)
theorem jTw_warm {s U : State} (hW : s.WarmedH U.vm) (h : jTw s) : jTw U := fun w hw => by
  have h1 : jIsT w = true := List.all_eq_true.mp jThr_ok w hw
  have h2 := h w hw
  cases w <;> first | exact va_Nw.warmC hW h2 | exact va_Nw.warmD hW h2 | (cases h1; done)
theorem jTw_same {u U : State} (hu : u.vm = U.vm) (h : jTw u) : jTw U := fun w hw => va_Nw.same (jT_on (List.all_eq_true.mp jThr_ok w hw)) hu (h w hw)
set_option maxHeartbeats 4000000 in
set_option maxRecDepth 100000 in
theorem c_xout (l : Launch) (D : va_G) (cT : Nat → ClassId) (a_t a_lines a_chart a_trial a_log a_shelves a_shown : Nat) (z_search z_plan : Value) (k_shownCount k_status k_whyStep k_whyReason k_whyBarge : Int32) (sw : Nat → Int32) (v1 : Int32) (h0 : ¬ v1 < 0) (h1 : v1 < k_shownCount) (hi : vp_in v1 8) : Met l yX6_out wsX6_out rm_xout (va_Pc [.ref a_t, .int v1] (fun U => va_P D vwCl [(a_t, .inr (6, [.ref a_lines, .ref a_chart, .ref a_trial, .ref a_log, .ref a_shelves, .ref a_shown, .int k_shownCount, .int k_status, .int k_whyStep, .int k_whyReason, .int k_whyBarge, z_search, z_plan])), (a_shown, .inl (cT 3, 8, .inl sw))] U.heap ∧ va_K D vwCl (jT cT) U)) (vp_Si (fun r => r = sw v1.toNatClampNeg)) 0 0 (fun _ => False) := by
  refine Met.ofW (cc := cX6_out) (maxL := 2) (ret := (some .int)) (by decide) rfl ?_
  intro p e s m args below meth c s₁ B hml hv
  obtain ⟨rfl, hP, hK⟩ := hv
  have hx := B.exec
  have hb := B.bytes
  have hr := B.returns
  have hts := atoms_spec (ws := wsX6_out) B.pre
  have hown : s.vm.findClass RX6 = some m.cls := findClass_of_methodNamed B.named
  have hlocks := B.notSynchronized
  have hl := lv_entry ([.ref a_t, .int v1]) (n := 2) (Nat.le_of_ble_eq_true rfl)
  rw [lg_entry_eq]
  generalize (lg_sl ([.ref a_t, .int v1]) ++ List.replicate (2 - (lg_sl ([.ref a_t, .int v1])).length) Slot.unset).toArray = ls at hl ⊢
  have hl : lv_has ls 2 [(0, .ref a_t), (1, .int v1)] := hl
  refine lv_iload_n hx hb dX6_out_0 rfl (lv_at hl 1 rfl) ?_
  refine lv_if_lt (tgt := 12) hx hb dX6_out_1 (by decide) (fun c1 => absurd c1 h0) (fun c1 => ?_)
  refine lv_iload_n hx hb dX6_out_4 rfl (lv_at hl 1 rfl) ?_
  refine lv_aload_n hx hb dX6_out_5 rfl (lv_at hl 0 rfl) ?_
  refine va_get (D := D) (ci := 6) (v := .int k_shownCount) (C := RX6) (T := TX6) (N := 13) hx hb hts iw_wsX6_out_X6 hown hK hP 0 rfl rfl 6 (by decide) (hts (.fieldLink RX6 320 "BargeBasin" "shownCount" "I") (List.mem_of_getElem? (i := 3) (by decide +kernel))) (fun _ h9 => h9) rfl dX6_out_6 ?_
  refine lv_icmp_lt (tgt := 20) hx hb dX6_out_9 (by decide) (fun c2 => ?_) (fun c2 => absurd h1 c2)
  refine lv_aload_n hx hb dX6_out_20 rfl (lv_at hl 0 rfl) ?_
  refine va_get (D := D) (ci := 6) (v := .ref a_shown) (C := RX6) (T := TX6) (N := 13) hx hb hts iw_wsX6_out_X6 hown hK hP 0 rfl rfl 5 (by decide) (hts (.fieldLink RX6 37 "BargeBasin" "shown" "[B") (List.mem_of_getElem? (i := 4) (by decide +kernel))) (fun _ h9 => h9) rfl dX6_out_21 ?_
  refine lv_iload_n hx hb dX6_out_24 rfl (lv_at hl 1 rfl) ?_
  refine va_bald hx hb hK hP 1 3 rfl rfl hi dX6_out_25 ?_
  exact W.iret hx hb hr (fun t ht hW => ⟨_, rfl, rfl, ht⟩) (fun q h => by cases h) dX6_out_26
set_option maxHeartbeats 4000000 in
set_option maxRecDepth 100000 in
theorem c_xthrow (l : Launch) (D : va_G) (cT : Nat → ClassId) (a_t a_lines a_chart a_trial a_log a_shelves a_shown : Nat) (z_search z_plan : Value) (k_shownCount k_status k_whyStep k_whyReason k_whyBarge : Int32) (v1 : Int32) (A : Nat → Prop) (hlt : l.stackTraces = false) (h : v1 < 0 ∨ ¬ v1 < k_shownCount) : vx_Met l yX6_out wsX6_out rm_xthrow (va_Pc [.ref a_t, .int v1] (fun U => va_P D vwCl [(a_t, .inr (6, [.ref a_lines, .ref a_chart, .ref a_trial, .ref a_log, .ref a_shelves, .ref a_shown, .int k_shownCount, .int k_status, .int k_whyStep, .int k_whyReason, .int k_whyBarge, z_search, z_plan]))] U.heap ∧ va_K D vwCl (jT cT) U ∧ vx_Zq Bundle.tN "UNASSIGNED_STACK" Bundle.steD A U U.heap ∧ vx_Zq Bundle.tN "SUPPRESSED_SENTINEL" Bundle.listD A U U.heap ∧ jTw U)) (va_Qi (fun (_ : Int32) (_ : Unit) => False) (fun _ _ => True) (fun _ => False)) (vx_X (fun _ : Unit => True) (fun E _ _ => E = "java/util/NoSuchElementException") (fun _ => False)) 1 6 (fun _ => False) := by
  refine vx_ofW (cc := cX6_out) (maxL := 2) (ret := (some .int)) (by decide) rfl ?_
  intro p e s m args below meth c s₁ B hml htab hv
  obtain ⟨rfl, hP, hK, hU, hNN, hTw⟩ := hv
  have hx := B.exec
  have hb := B.bytes
  have hr := B.returns
  have hts := atoms_spec (ws := wsX6_out) B.pre
  have hown : s.vm.findClass RX6 = some m.cls := findClass_of_methodNamed B.named
  have hlocks := B.notSynchronized
  have hat : ∀ w ∈ vx_at0 RX6 325 "java/util/NoSuchElementException" ["java/lang/RuntimeException", "java/lang/Exception"], w.before ([.ref a_t, .int v1] : List Value).toArray s = true := vx_hat (B := jThr) (fun w h9 => hts w (List.mem_cons_of_mem _ (List.mem_append_right _ h9))) (fun w h9 => h9) (fun w h9 => va_Nw.use (jT_on (List.all_eq_true.mp jThr_ok w h9)) (hTw w h9))
  have hl := lv_entry ([.ref a_t, .int v1]) (n := 2) (Nat.le_of_ble_eq_true rfl)
  rw [lg_entry_eq]
  generalize (lg_sl ([.ref a_t, .int v1]) ++ List.replicate (2 - (lg_sl ([.ref a_t, .int v1])).length) Slot.unset).toArray = ls at hl ⊢
  have hl : lv_has ls 2 [(0, .ref a_t), (1, .int v1)] := hl
  refine lv_iload_n hx hb dX6_out_0 rfl (lv_at hl 1 rfl) ?_
  refine lv_if_lt (tgt := 12) hx hb dX6_out_1 (by decide) (fun c1 => ?_) (fun c1 => ?_)
  · exact vx_throw0 hx hb hlt (own := RX6) (cls := "java/util/NoSuchElementException") (names := ["java/lang/RuntimeException", "java/lang/Exception"]) (ik := 323) (ic := 325) (A := A) hown (by decide +kernel) (by decide +kernel) (hts (.classLink RX6 323 "java/util/NoSuchElementException") (List.mem_of_getElem? (i := 1) (by decide +kernel))) (hts (.initialized "java/util/NoSuchElementException") (List.mem_of_getElem? (i := 2) (by decide +kernel))) hat (by decide +kernel) hU hNN va_S.rf (by rw [hml]; exact hl.1) dX6_out_12 dX6_out_15 dX6_out_16 dX6_out_19 (fun x h9 => absurd (htab x h9) id) (Nat.le_of_ble_eq_true rfl) (Nat.le_of_ble_eq_true rfl) (Nat.le_of_ble_eq_true rfl) (Nat.le_of_ble_eq_true rfl) hlocks (fun t ha hz hq => ⟨(), trivial, rfl, hz, fun q hlt _ => hq q hlt⟩) (fun z hz => by cases hz) (Nat.le_of_ble_eq_true rfl) (Nat.le_of_ble_eq_true rfl)
  · refine lv_iload_n hx hb dX6_out_4 rfl (lv_at hl 1 rfl) ?_
    refine lv_aload_n hx hb dX6_out_5 rfl (lv_at hl 0 rfl) ?_
    refine va_get (D := D) (ci := 6) (v := .int k_shownCount) (C := RX6) (T := TX6) (N := 13) hx hb hts iw_wsX6_out_X6 hown hK hP 0 rfl rfl 6 (by decide) (hts (.fieldLink RX6 320 "BargeBasin" "shownCount" "I") (List.mem_of_getElem? (i := 3) (by decide +kernel))) (fun _ h9 => h9) rfl dX6_out_6 ?_
    refine lv_icmp_lt (tgt := 20) hx hb dX6_out_9 (by decide) (fun c2 => absurd c2 (h.resolve_left c1)) (fun c2 => ?_)
    exact vx_throw0 hx hb hlt (own := RX6) (cls := "java/util/NoSuchElementException") (names := ["java/lang/RuntimeException", "java/lang/Exception"]) (ik := 323) (ic := 325) (A := A) hown (by decide +kernel) (by decide +kernel) (hts (.classLink RX6 323 "java/util/NoSuchElementException") (List.mem_of_getElem? (i := 1) (by decide +kernel))) (hts (.initialized "java/util/NoSuchElementException") (List.mem_of_getElem? (i := 2) (by decide +kernel))) hat (by decide +kernel) hU hNN va_S.rf (by rw [hml]; exact hl.1) dX6_out_12 dX6_out_15 dX6_out_16 dX6_out_19 (fun x h9 => absurd (htab x h9) id) (Nat.le_of_ble_eq_true rfl) (Nat.le_of_ble_eq_true rfl) (Nat.le_of_ble_eq_true rfl) (Nat.le_of_ble_eq_true rfl) hlocks (fun t ha hz hq => ⟨(), trivial, rfl, hz, fun q hlt _ => hq q hlt⟩) (fun z hz => by cases hz) (Nat.le_of_ble_eq_true rfl) (Nat.le_of_ble_eq_true rfl)
