set_option maxHeartbeats 4000000 in
set_option maxRecDepth 100000 in
theorem st_reach {p : Program} {l : Launch} {e : Env} {s : State} {m : MethodId} {below : List Frame} {meth : Method} {cd : Code} {Q : State → Prop} {H : Heap} {locs : List Loc} {cells slots : Nat} {ls : Array Slot} {b L : Nat} {xs : Nat → Int32} {D : va_G} {cT : Nat → ClassId} {A : Nat → Prop} {aS aX aY : Nat} {xa ma : Nat → Nat} {oa j : Nat} {x4 : Int32} (Cx : lwCx p s m cd b L xs D cT A aS aX aY) (hin : vp_in (x4 + 1) L ∧ vp_in (x4 + 2) L ∧ vp_in (x4 + 3) L ∧ vp_in (x4 + 4) L ∧ vp_in (x4 + 5) L) (hj : j ≤ 511) (hl : lv_has ls 7 [(0, .ref b), (1, .ref (xa 0)), (2, .ref (ma 0)), (3, .ref oa), (4, .int x4)]) (hI : lwI D cT A xa ma oa H cells slots j) (hS : va_S A s.heap H locs) (K : ∀ (H : Heap) (locs : List Loc) (nC nS : Nat), lwI D cT A xa ma oa H nC nS (j + 1) → va_S A s.heap H locs → W p l e room_1 s m #[Value.ref b] below meth cd H locs nC nS Q (F0 m 1291 ls [])) : W p l e room_1 s m #[Value.ref b] below meth cd H locs cells slots Q (F0 m 1030 ls []) := by
  obtain ⟨zs, zp, o, ln, c, tr, g, sh, sw, mi, mw, mp, ml, mb, mu, ms, mk, mo, mt, ov, S, Pl, K0, K1, K2, K3, hP, hD, hB, iR, iP, i0, i1, i2, i3, iC, iN⟩ := hI
  obtain ⟨hi1, hi2, hi3, hi4, hi5⟩ := hin
  have lR := sr_len iR
  have lP := pl_len iP
  have l0 := kp_len i0
  have l1 := kp_len i1
  have l2 := kp_len i2
  have l3 := kp_len i3
  have lS : ∀ (sa : Nat → Nat) (sv : qS) (bd : qC), (wS sa cT sv bd).length = 18 := fun _ _ _ => rfl
  have lPl : ∀ (pa : Nat → Nat) (pv : qP), (wP pa cT pv).length = 2 := fun _ _ => rfl
  have lK : ∀ (ka : Nat → Nat) (kc : qC), (wK ka cT kc).length = 9 := fun _ _ => rfl
  rcases iR with ⟨rfl, rfl⟩ | ⟨sa, sv, bd, rfl, rfl, hs⟩
  · rcases pk_reach_0 (tr := tr) (sh := sh) (mp := mp) (ms := ms) (mk := mk) (mt := mt) hB  with ⟨r0, k_statusz, k_statuszz, k_thrownzz, k_standszz, k_edgeszz, k_placeszz, k_headszz, k_chainzz, k_depthzz, k_parentzz, k_byBargezz, k_byWayzz, k_byStepszz, k_firstEdgezz, k_edgezz, k_edgeBargezz, k_whozz, k_herezz, e1, e2, hB⟩ | ⟨r0, k_statusz, k_search_foundz, k_search_spentz, k_search_board_widthz, k_search_board_heightz, k_search_board_bargesz, k_search_board_wallsz, k_search_board_takenz, k_search_board_kindz, k_search_board_placez, k_search_board_lengthz, k_search_board_gatez, k_search_board_acrossz, k_search_board_widez, k_search_board_highz, k_search_board_shapez, k_search_lowz, k_search_highz, k_search_slotsz, k_search_slotForz, k_search_movesz, k_statuszz, k_thrownzz, k_standszz, k_edgeszz, k_placeszz, k_headszz, k_chainzz, k_depthzz, k_parentzz, k_byBargezz, k_byWayzz, k_byStepszz, k_firstEdgezz, k_edgezz, k_edgeBargezz, k_whozz, k_herezz, e1, e2, hB, hs⟩
    · refine lc_reach_search00 Cx  e1 e2 hP hD hS hl (by omega) (by omega) (fun H locs hP hD hS => ?_)
      exact K H locs _ _ ⟨.null, zp, _, _, _, _, _, _, _, _, _, _, _, _, _, _, _, _, _, ov, [], Pl, K0, K1, K2, K3, hP, hD, hB, Or.inl ⟨rfl, rfl⟩, iP, i0, i1, i2, i3, (by simp only [lS, lPl, lK, List.length_nil] at *; omega), (by simp only [lS, lPl, lK, List.length_nil] at *; omega)⟩ hS
    · refine lc_reach_search01 Cx  e1 e2 hP hD hS hl (by omega) (by omega) (fun sa H locs hP hD hS => ?_)
      obtain ⟨hP, hD⟩ := jl_perm lw_pS.symm hP hD
      exact K H locs _ _ ⟨.ref (sa 0), zp, _, _, _, _, _, _, _, _, _, _, _, _, _, _, _, _, _, ov, _, Pl, K0, K1, K2, K3, hP, hD, hB, Or.inr ⟨sa, _, _, rfl, rfl, hs⟩, iP, i0, i1, i2, i3, (by simp only [lS, lPl, lK, List.length_nil] at *; omega), (by simp only [lS, lPl, lK, List.length_nil] at *; omega)⟩ hS
  · obtain ⟨r0, k_statusz, k_search_foundz, k_search_spentz, k_search_board_widthz, k_search_board_heightz, k_search_board_bargesz, k_search_board_wallsz, k_search_board_takenz, k_search_board_kindz, k_search_board_placez, k_search_board_lengthz, k_search_board_gatez, k_search_board_acrossz, k_search_board_widez, k_search_board_highz, k_search_board_shapez, k_search_lowz, k_search_highz, k_search_slotsz, k_search_slotForz, k_search_movesz, k_statuszz, k_thrownzz, k_standszz, k_edgeszz, k_placeszz, k_headszz, k_chainzz, k_depthzz, k_parentzz, k_byBargezz, k_byWayzz, k_byStepszz, k_firstEdgezz, k_edgezz, k_edgeBargezz, k_whozz, k_herezz, e1, e2, hB, hs⟩ := pk_reach_1 (tr := tr) (sh := sh) (mp := mp) (ms := ms) (mk := mk) (mt := mt) (bd := bd) hB hs 
    obtain ⟨hP, hD⟩ := jl_perm lw_pS hP hD
    refine lc_reach_search11 Cx  e1 e2 hP hD hS hl (by omega) (by omega) (fun H locs hP hD hS => ?_)
    obtain ⟨hP, hD⟩ := jl_perm lw_pS.symm hP hD
    exact K H locs _ _ ⟨.ref (sa 0), zp, _, _, _, _, _, _, _, _, _, _, _, _, _, _, _, _, _, ov, _, Pl, K0, K1, K2, K3, hP, hD, hB, Or.inr ⟨sa, _, _, rfl, rfl, hs⟩, iP, i0, i1, i2, i3, (by simp only [lS, lPl, lK, List.length_nil] at *; omega), (by simp only [lS, lPl, lK, List.length_nil] at *; omega)⟩ hS
set_option maxHeartbeats 4000000 in
set_option maxRecDepth 100000 in
theorem st_far {p : Program} {l : Launch} {e : Env} {s : State} {m : MethodId} {below : List Frame} {meth : Method} {cd : Code} {Q : State → Prop} {H : Heap} {locs : List Loc} {cells slots : Nat} {ls : Array Slot} {b L : Nat} {xs : Nat → Int32} {D : va_G} {cT : Nat → ClassId} {A : Nat → Prop} {aS aX aY : Nat} {xa ma : Nat → Nat} {oa j : Nat} {x4 : Int32} (Cx : lwCx p s m cd b L xs D cT A aS aX aY) (hin : vp_in (x4 + 1) L ∧ vp_in (x4 + 2) L ∧ vp_in (x4 + 3) L ∧ vp_in (x4 + 4) L ∧ vp_in (x4 + 5) L) (hj : j ≤ 511) (hl : lv_has ls 7 [(0, .ref b), (1, .ref (xa 0)), (2, .ref (ma 0)), (3, .ref oa), (4, .int x4)]) (hI : lwI D cT A xa ma oa H cells slots j) (hS : va_S A s.heap H locs) (K : ∀ (H : Heap) (locs : List Loc) (nC nS : Nat), lwI D cT A xa ma oa H nC nS (j + 1) → va_S A s.heap H locs → W p l e room_1 s m #[Value.ref b] below meth cd H locs nC nS Q (F0 m 1291 ls [])) : W p l e room_1 s m #[Value.ref b] below meth cd H locs cells slots Q (F0 m 1043 ls []) := by
  obtain ⟨zs, zp, o, ln, c, tr, g, sh, sw, mi, mw, mp, ml, mb, mu, ms, mk, mo, mt, ov, S, Pl, K0, K1, K2, K3, hP, hD, hB, iR, iP, i0, i1, i2, i3, iC, iN⟩ := hI
  obtain ⟨hi1, hi2, hi3, hi4, hi5⟩ := hin
  have lR := sr_len iR
  have lP := pl_len iP
  have l0 := kp_len i0
  have l1 := kp_len i1
  have l2 := kp_len i2
  have l3 := kp_len i3
  have lS : ∀ (sa : Nat → Nat) (sv : qS) (bd : qC), (wS sa cT sv bd).length = 18 := fun _ _ _ => rfl
  have lPl : ∀ (pa : Nat → Nat) (pv : qP), (wP pa cT pv).length = 2 := fun _ _ => rfl
  have lK : ∀ (ka : Nat → Nat) (kc : qC), (wK ka cT kc).length = 9 := fun _ _ => rfl
  rcases iR with ⟨rfl, rfl⟩ | ⟨sa, sv, bd, rfl, rfl, hs⟩
  · rcases pk_far_0 (tr := tr) (sh := sh) (mp := mp) (ms := ms) (mk := mk) (mt := mt) hB  with ⟨r0, k_statusz, k_statuszz, k_thrownzz, k_standszz, k_edgeszz, k_placeszz, k_headszz, k_chainzz, k_depthzz, k_parentzz, k_byBargezz, k_byWayzz, k_byStepszz, k_farzz, k_firstEdgezz, k_edgezz, k_edgeBargezz, k_whozz, k_herezz, e1, e2, hB⟩ | ⟨r0, k_statusz, k_search_foundz, k_search_queuedz, k_search_spentz, k_search_board_widthz, k_search_board_heightz, k_search_board_bargesz, k_search_board_wallsz, k_search_board_takenz, k_search_board_kindz, k_search_board_placez, k_search_board_lengthz, k_search_board_gatez, k_search_board_acrossz, k_search_board_widez, k_search_board_highz, k_search_board_shapez, k_search_lowz, k_search_highz, k_search_slotsz, k_search_slotForz, k_search_movesz, k_search_distancez, k_search_queuez, k_statuszz, k_thrownzz, k_standszz, k_edgeszz, k_placeszz, k_headszz, k_chainzz, k_depthzz, k_parentzz, k_byBargezz, k_byWayzz, k_byStepszz, k_farzz, k_firstEdgezz, k_edgezz, k_edgeBargezz, k_whozz, k_herezz, e1, e2, hB, hs⟩
    · refine lc_far_search00 Cx  e1 e2 hP hD hS hl (by omega) (by omega) (fun H locs hP hD hS => ?_)
      exact K H locs _ _ ⟨.null, zp, _, _, _, _, _, _, _, _, _, _, _, _, _, _, _, _, _, ov, [], Pl, K0, K1, K2, K3, hP, hD, hB, Or.inl ⟨rfl, rfl⟩, iP, i0, i1, i2, i3, (by simp only [lS, lPl, lK, List.length_nil] at *; omega), (by simp only [lS, lPl, lK, List.length_nil] at *; omega)⟩ hS
    · refine lc_far_search01 Cx  e1 e2 hP hD hS hl (by omega) (by omega) (fun sa H locs hP hD hS => ?_)
      obtain ⟨hP, hD⟩ := jl_perm lw_pS.symm hP hD
      exact K H locs _ _ ⟨.ref (sa 0), zp, _, _, _, _, _, _, _, _, _, _, _, _, _, _, _, _, _, ov, _, Pl, K0, K1, K2, K3, hP, hD, hB, Or.inr ⟨sa, _, _, rfl, rfl, hs⟩, iP, i0, i1, i2, i3, (by simp only [lS, lPl, lK, List.length_nil] at *; omega), (by simp only [lS, lPl, lK, List.length_nil] at *; omega)⟩ hS
  · obtain ⟨r0, k_statusz, k_search_foundz, k_search_queuedz, k_search_spentz, k_search_board_widthz, k_search_board_heightz, k_search_board_bargesz, k_search_board_wallsz, k_search_board_takenz, k_search_board_kindz, k_search_board_placez, k_search_board_lengthz, k_search_board_gatez, k_search_board_acrossz, k_search_board_widez, k_search_board_highz, k_search_board_shapez, k_search_lowz, k_search_highz, k_search_slotsz, k_search_slotForz, k_search_movesz, k_search_distancez, k_search_queuez, k_statuszz, k_thrownzz, k_standszz, k_edgeszz, k_placeszz, k_headszz, k_chainzz, k_depthzz, k_parentzz, k_byBargezz, k_byWayzz, k_byStepszz, k_farzz, k_firstEdgezz, k_edgezz, k_edgeBargezz, k_whozz, k_herezz, e1, e2, hB, hs⟩ := pk_far_1 (tr := tr) (sh := sh) (mp := mp) (ms := ms) (mk := mk) (mt := mt) (bd := bd) hB hs 
    obtain ⟨hP, hD⟩ := jl_perm lw_pS hP hD
    refine lc_far_search11 Cx  e1 e2 hP hD hS hl (by omega) (by omega) (fun H locs hP hD hS => ?_)
    obtain ⟨hP, hD⟩ := jl_perm lw_pS.symm hP hD
    exact K H locs _ _ ⟨.ref (sa 0), zp, _, _, _, _, _, _, _, _, _, _, _, _, _, _, _, _, _, ov, _, Pl, K0, K1, K2, K3, hP, hD, hB, Or.inr ⟨sa, _, _, rfl, rfl, hs⟩, iP, i0, i1, i2, i3, (by simp only [lS, lPl, lK, List.length_nil] at *; omega), (by simp only [lS, lPl, lK, List.length_nil] at *; omega)⟩ hS
set_option maxHeartbeats 4000000 in
set_option maxRecDepth 100000 in
theorem st_all {p : Program} {l : Launch} {e : Env} {s : State} {m : MethodId} {below : List Frame} {meth : Method} {cd : Code} {Q : State → Prop} {H : Heap} {locs : List Loc} {cells slots : Nat} {ls : Array Slot} {b L : Nat} {xs : Nat → Int32} {D : va_G} {cT : Nat → ClassId} {A : Nat → Prop} {aS aX aY : Nat} {xa ma : Nat → Nat} {oa j : Nat} {x4 : Int32} (Cx : lwCx p s m cd b L xs D cT A aS aX aY) (hin : vp_in (x4 + 1) L ∧ vp_in (x4 + 2) L ∧ vp_in (x4 + 3) L ∧ vp_in (x4 + 4) L ∧ vp_in (x4 + 5) L) (hj : j ≤ 511) (hl : lv_has ls 7 [(0, .ref b), (1, .ref (xa 0)), (2, .ref (ma 0)), (3, .ref oa), (4, .int x4)]) (hI : lwI D cT A xa ma oa H cells slots j) (hS : va_S A s.heap H locs) (K : ∀ (H : Heap) (locs : List Loc) (nC nS : Nat), lwI D cT A xa ma oa H nC nS (j + 1) → va_S A s.heap H locs → W p l e room_1 s m #[Value.ref b] below meth cd H locs nC nS Q (F0 m 1291 ls [])) : W p l e room_1 s m #[Value.ref b] below meth cd H locs cells slots Q (F0 m 978 ls []) := by
  obtain ⟨zs, zp, o, ln, c, tr, g, sh, sw, mi, mw, mp, ml, mb, mu, ms, mk, mo, mt, ov, S, Pl, K0, K1, K2, K3, hP, hD, hB, iR, iP, i0, i1, i2, i3, iC, iN⟩ := hI
  obtain ⟨hi1, hi2, hi3, hi4, hi5⟩ := hin
  have lR := sr_len iR
  have lP := pl_len iP
  have l0 := kp_len i0
  have l1 := kp_len i1
  have l2 := kp_len i2
  have l3 := kp_len i3
  have lS : ∀ (sa : Nat → Nat) (sv : qS) (bd : qC), (wS sa cT sv bd).length = 18 := fun _ _ _ => rfl
  have lPl : ∀ (pa : Nat → Nat) (pv : qP), (wP pa cT pv).length = 2 := fun _ _ => rfl
  have lK : ∀ (ka : Nat → Nat) (kc : qC), (wK ka cT kc).length = 9 := fun _ _ => rfl
  rcases iR with ⟨rfl, rfl⟩ | ⟨sa, sv, bd, rfl, rfl, hs⟩
  · rcases pk_all_0 (tr := tr) (sh := sh) (mp := mp) (ms := ms) (mk := mk) (mt := mt) hB  with ⟨r0, k_statusz, k_statuszz, k_thrownzz, k_standszz, k_edgeszz, k_placeszz, k_headszz, k_chainzz, k_depthzz, k_parentzz, k_byBargezz, k_byWayzz, k_byStepszz, k_firstEdgezz, k_edgezz, k_edgeBargezz, k_countzz, k_whozz, k_herezz, e1, e2, hB⟩ | ⟨r0, k_statusz, k_search_foundz, k_search_queuedz, k_search_spentz, k_search_board_widthz, k_search_board_heightz, k_search_board_bargesz, k_search_board_wallsz, k_search_board_takenz, k_search_board_kindz, k_search_board_placez, k_search_board_lengthz, k_search_board_gatez, k_search_board_acrossz, k_search_board_widez, k_search_board_highz, k_search_board_shapez, k_search_lowz, k_search_highz, k_search_slotsz, k_search_slotForz, k_search_movesz, k_search_distancez, k_search_queuez, k_search_waysz, k_statuszz, k_thrownzz, k_standszz, k_edgeszz, k_placeszz, k_headszz, k_chainzz, k_depthzz, k_parentzz, k_byBargezz, k_byWayzz, k_byStepszz, k_firstEdgezz, k_edgezz, k_edgeBargezz, k_countzz, k_whozz, k_herezz, e1, e2, hB, hs⟩
    · refine lc_all_search00 Cx  e1 e2 hP hD hS hl (by omega) (by omega) (fun H locs hP hD hS => ?_)
      exact K H locs _ _ ⟨.null, zp, _, _, _, _, _, _, _, _, _, _, _, _, _, _, _, _, _, ov, [], Pl, K0, K1, K2, K3, hP, hD, hB, Or.inl ⟨rfl, rfl⟩, iP, i0, i1, i2, i3, (by simp only [lS, lPl, lK, List.length_nil] at *; omega), (by simp only [lS, lPl, lK, List.length_nil] at *; omega)⟩ hS
    · refine lc_all_search01 Cx  e1 e2 hP hD hS hl (by omega) (by omega) (fun sa H locs hP hD hS => ?_)
      obtain ⟨hP, hD⟩ := jl_perm lw_pS.symm hP hD
      exact K H locs _ _ ⟨.ref (sa 0), zp, _, _, _, _, _, _, _, _, _, _, _, _, _, _, _, _, _, ov, _, Pl, K0, K1, K2, K3, hP, hD, hB, Or.inr ⟨sa, _, _, rfl, rfl, hs⟩, iP, i0, i1, i2, i3, (by simp only [lS, lPl, lK, List.length_nil] at *; omega), (by simp only [lS, lPl, lK, List.length_nil] at *; omega)⟩ hS
  · obtain ⟨r0, k_statusz, k_search_foundz, k_search_queuedz, k_search_spentz, k_search_board_widthz, k_search_board_heightz, k_search_board_bargesz, k_search_board_wallsz, k_search_board_takenz, k_search_board_kindz, k_search_board_placez, k_search_board_lengthz, k_search_board_gatez, k_search_board_acrossz, k_search_board_widez, k_search_board_highz, k_search_board_shapez, k_search_lowz, k_search_highz, k_search_slotsz, k_search_slotForz, k_search_movesz, k_search_distancez, k_search_queuez, k_search_waysz, k_statuszz, k_thrownzz, k_standszz, k_edgeszz, k_placeszz, k_headszz, k_chainzz, k_depthzz, k_parentzz, k_byBargezz, k_byWayzz, k_byStepszz, k_firstEdgezz, k_edgezz, k_edgeBargezz, k_countzz, k_whozz, k_herezz, e1, e2, hB, hs⟩ := pk_all_1 (tr := tr) (sh := sh) (mp := mp) (ms := ms) (mk := mk) (mt := mt) (bd := bd) hB hs 
    obtain ⟨hP, hD⟩ := jl_perm lw_pS hP hD
    refine lc_all_search11 Cx  e1 e2 hP hD hS hl (by omega) (by omega) (fun H locs hP hD hS => ?_)
    obtain ⟨hP, hD⟩ := jl_perm lw_pS.symm hP hD
    exact K H locs _ _ ⟨.ref (sa 0), zp, _, _, _, _, _, _, _, _, _, _, _, _, _, _, _, _, _, ov, _, Pl, K0, K1, K2, K3, hP, hD, hB, Or.inr ⟨sa, _, _, rfl, rfl, hs⟩, iP, i0, i1, i2, i3, (by simp only [lS, lPl, lK, List.length_nil] at *; omega), (by simp only [lS, lPl, lK, List.length_nil] at *; omega)⟩ hS
set_option maxHeartbeats 4000000 in
set_option maxRecDepth 100000 in
theorem st_must {p : Program} {l : Launch} {e : Env} {s : State} {m : MethodId} {below : List Frame} {meth : Method} {cd : Code} {Q : State → Prop} {H : Heap} {locs : List Loc} {cells slots : Nat} {ls : Array Slot} {b L : Nat} {xs : Nat → Int32} {D : va_G} {cT : Nat → ClassId} {A : Nat → Prop} {aS aX aY : Nat} {xa ma : Nat → Nat} {oa j : Nat} {x4 : Int32} (Cx : lwCx p s m cd b L xs D cT A aS aX aY) (hin : vp_in (x4 + 1) L ∧ vp_in (x4 + 2) L ∧ vp_in (x4 + 3) L ∧ vp_in (x4 + 4) L ∧ vp_in (x4 + 5) L) (hj : j ≤ 511) (hl : lv_has ls 7 [(0, .ref b), (1, .ref (xa 0)), (2, .ref (ma 0)), (3, .ref oa), (4, .int x4)]) (hI : lwI D cT A xa ma oa H cells slots j) (hS : va_S A s.heap H locs) (K : ∀ (H : Heap) (locs : List Loc) (nC nS : Nat), lwI D cT A xa ma oa H nC nS (j + 1) → va_S A s.heap H locs → W p l e room_1 s m #[Value.ref b] below meth cd H locs nC nS Q (F0 m 1291 ls [])) : W p l e room_1 s m #[Value.ref b] below meth cd H locs cells slots Q (F0 m 992 ls []) := by
  obtain ⟨zs, zp, o, ln, c, tr, g, sh, sw, mi, mw, mp, ml, mb, mu, ms, mk, mo, mt, ov, S, Pl, K0, K1, K2, K3, hP, hD, hB, iR, iP, i0, i1, i2, i3, iC, iN⟩ := hI
  obtain ⟨hi1, hi2, hi3, hi4, hi5⟩ := hin
  have lR := sr_len iR
  have lP := pl_len iP
  have l0 := kp_len i0
  have l1 := kp_len i1
  have l2 := kp_len i2
  have l3 := kp_len i3
  have lS : ∀ (sa : Nat → Nat) (sv : qS) (bd : qC), (wS sa cT sv bd).length = 18 := fun _ _ _ => rfl
  have lPl : ∀ (pa : Nat → Nat) (pv : qP), (wP pa cT pv).length = 2 := fun _ _ => rfl
  have lK : ∀ (ka : Nat → Nat) (kc : qC), (wK ka cT kc).length = 9 := fun _ _ => rfl
  rcases iR with ⟨rfl, rfl⟩ | ⟨sa, sv, bd, rfl, rfl, hs⟩
  · rcases pk_must_0 (tr := tr) (sh := sh) (mp := mp) (ms := ms) (mk := mk) (mt := mt) hB (xs (x4 + 1).toNatClampNeg) with ⟨r0, k_statusz, k_statuszz, k_thrownzz, k_standszz, k_edgeszz, k_placeszz, k_headszz, k_chainzz, k_depthzz, k_parentzz, k_byBargezz, k_byWayzz, k_byStepszz, k_firstEdgezz, k_edgezz, k_edgeBargezz, k_countzz, k_whozz, k_herezz, e1, e2, hB⟩ | ⟨r0, k_statusz, k_search_foundz, k_search_queuedz, k_search_spentz, k_search_board_widthz, k_search_board_heightz, k_search_board_bargesz, k_search_board_wallsz, k_search_board_takenz, k_search_board_kindz, k_search_board_placez, k_search_board_lengthz, k_search_board_gatez, k_search_board_acrossz, k_search_board_widez, k_search_board_highz, k_search_board_shapez, k_search_lowz, k_search_highz, k_search_slotsz, k_search_slotForz, k_search_movesz, k_search_distancez, k_search_queuez, k_search_waysz, k_statuszz, k_thrownzz, k_standszz, k_edgeszz, k_placeszz, k_headszz, k_chainzz, k_depthzz, k_parentzz, k_byBargezz, k_byWayzz, k_byStepszz, k_firstEdgezz, k_edgezz, k_edgeBargezz, k_countzz, k_whozz, k_herezz, e1, e2, hB, hs⟩
    · refine lc_must_search00 Cx hi1 e1 e2 hP hD hS hl (by omega) (by omega) (fun H locs hP hD hS => ?_)
      exact K H locs _ _ ⟨.null, zp, _, _, _, _, _, _, _, _, _, _, _, _, _, _, _, _, _, ov, [], Pl, K0, K1, K2, K3, hP, hD, hB, Or.inl ⟨rfl, rfl⟩, iP, i0, i1, i2, i3, (by simp only [lS, lPl, lK, List.length_nil] at *; omega), (by simp only [lS, lPl, lK, List.length_nil] at *; omega)⟩ hS
    · refine lc_must_search01 Cx hi1 e1 e2 hP hD hS hl (by omega) (by omega) (fun sa H locs hP hD hS => ?_)
      obtain ⟨hP, hD⟩ := jl_perm lw_pS.symm hP hD
      exact K H locs _ _ ⟨.ref (sa 0), zp, _, _, _, _, _, _, _, _, _, _, _, _, _, _, _, _, _, ov, _, Pl, K0, K1, K2, K3, hP, hD, hB, Or.inr ⟨sa, _, _, rfl, rfl, hs⟩, iP, i0, i1, i2, i3, (by simp only [lS, lPl, lK, List.length_nil] at *; omega), (by simp only [lS, lPl, lK, List.length_nil] at *; omega)⟩ hS
  · obtain ⟨r0, k_statusz, k_search_foundz, k_search_queuedz, k_search_spentz, k_search_board_widthz, k_search_board_heightz, k_search_board_bargesz, k_search_board_wallsz, k_search_board_takenz, k_search_board_kindz, k_search_board_placez, k_search_board_lengthz, k_search_board_gatez, k_search_board_acrossz, k_search_board_widez, k_search_board_highz, k_search_board_shapez, k_search_lowz, k_search_highz, k_search_slotsz, k_search_slotForz, k_search_movesz, k_search_distancez, k_search_queuez, k_search_waysz, k_statuszz, k_thrownzz, k_standszz, k_edgeszz, k_placeszz, k_headszz, k_chainzz, k_depthzz, k_parentzz, k_byBargezz, k_byWayzz, k_byStepszz, k_firstEdgezz, k_edgezz, k_edgeBargezz, k_countzz, k_whozz, k_herezz, e1, e2, hB, hs⟩ := pk_must_1 (tr := tr) (sh := sh) (mp := mp) (ms := ms) (mk := mk) (mt := mt) (bd := bd) hB hs (xs (x4 + 1).toNatClampNeg)
    obtain ⟨hP, hD⟩ := jl_perm lw_pS hP hD
    refine lc_must_search11 Cx hi1 e1 e2 hP hD hS hl (by omega) (by omega) (fun H locs hP hD hS => ?_)
    obtain ⟨hP, hD⟩ := jl_perm lw_pS.symm hP hD
    exact K H locs _ _ ⟨.ref (sa 0), zp, _, _, _, _, _, _, _, _, _, _, _, _, _, _, _, _, _, ov, _, Pl, K0, K1, K2, K3, hP, hD, hB, Or.inr ⟨sa, _, _, rfl, rfl, hs⟩, iP, i0, i1, i2, i3, (by simp only [lS, lPl, lK, List.length_nil] at *; omega), (by simp only [lS, lPl, lK, List.length_nil] at *; omega)⟩ hS
set_option maxHeartbeats 4000000 in
set_option maxRecDepth 100000 in
theorem st_go {p : Program} {l : Launch} {e : Env} {s : State} {m : MethodId} {below : List Frame} {meth : Method} {cd : Code} {Q : State → Prop} {H : Heap} {locs : List Loc} {cells slots : Nat} {ls : Array Slot} {b L : Nat} {xs : Nat → Int32} {D : va_G} {cT : Nat → ClassId} {A : Nat → Prop} {aS aX aY : Nat} {xa ma : Nat → Nat} {oa j : Nat} {x4 : Int32} (Cx : lwCx p s m cd b L xs D cT A aS aX aY) (hin : vp_in (x4 + 1) L ∧ vp_in (x4 + 2) L ∧ vp_in (x4 + 3) L ∧ vp_in (x4 + 4) L ∧ vp_in (x4 + 5) L) (hj : j ≤ 511) (hl : lv_has ls 7 [(0, .ref b), (1, .ref (xa 0)), (2, .ref (ma 0)), (3, .ref oa), (4, .int x4)]) (hI : lwI D cT A xa ma oa H cells slots j) (hS : va_S A s.heap H locs) (K : ∀ (H : Heap) (locs : List Loc) (nC nS : Nat), lwI D cT A xa ma oa H nC nS (j + 1) → va_S A s.heap H locs → W p l e room_1 s m #[Value.ref b] below meth cd H locs nC nS Q (F0 m 1291 ls [])) : W p l e room_1 s m #[Value.ref b] below meth cd H locs cells slots Q (F0 m 1056 ls []) := by
  obtain ⟨zs, zp, o, ln, c, tr, g, sh, sw, mi, mw, mp, ml, mb, mu, ms, mk, mo, mt, ov, S, Pl, K0, K1, K2, K3, hP, hD, hB, iR, iP, i0, i1, i2, i3, iC, iN⟩ := hI
  obtain ⟨hi1, hi2, hi3, hi4, hi5⟩ := hin
  have lR := sr_len iR
  have lP := pl_len iP
  have l0 := kp_len i0
  have l1 := kp_len i1
  have l2 := kp_len i2
  have l3 := kp_len i3
  have lS : ∀ (sa : Nat → Nat) (sv : qS) (bd : qC), (wS sa cT sv bd).length = 18 := fun _ _ _ => rfl
  have lPl : ∀ (pa : Nat → Nat) (pv : qP), (wP pa cT pv).length = 2 := fun _ _ => rfl
  have lK : ∀ (ka : Nat → Nat) (kc : qC), (wK ka cT kc).length = 9 := fun _ _ => rfl
  rcases iR with ⟨rfl, rfl⟩ | ⟨sa, sv, bd, rfl, rfl, hs⟩
  · rcases pk_go_0 (tr := tr) (sh := sh) (mp := mp) (ms := ms) (mk := mk) (mt := mt) hB  with ⟨r0, k_statusz, k_statuszz, k_thrownzz, k_undoManyzz, k_redoManyzz, k_standszz, k_edgeszz, k_atzz, k_placeszz, k_headszz, k_chainzz, k_depthzz, k_parentzz, k_byBargezz, k_byWayzz, k_byStepszz, k_farzz, k_firstEdgezz, k_edgezz, k_edgeBargezz, k_whozz, k_herezz, e1, e2, hB⟩ | ⟨r0, k_statusz, k_chart_takenz, k_chart_placez, k_log_donez, k_log_undonez, k_search_foundz, k_search_queuedz, k_search_spentz, k_search_board_widthz, k_search_board_heightz, k_search_board_bargesz, k_search_board_wallsz, k_search_board_takenz, k_search_board_kindz, k_search_board_placez, k_search_board_lengthz, k_search_board_gatez, k_search_board_acrossz, k_search_board_widez, k_search_board_highz, k_search_board_shapez, k_search_lowz, k_search_highz, k_search_slotsz, k_search_slotForz, k_search_movesz, k_search_distancez, k_search_queuez, k_statuszz, k_thrownzz, k_undoManyzz, k_redoManyzz, k_standszz, k_edgeszz, k_atzz, k_placeszz, k_headszz, k_chainzz, k_depthzz, k_parentzz, k_byBargezz, k_byWayzz, k_byStepszz, k_farzz, k_firstEdgezz, k_edgezz, k_edgeBargezz, k_whozz, k_herezz, e1, e2, hB, hs⟩
    · refine lc_go_search00 Cx  e1 e2 hP hD hS hl (by omega) (by omega) (fun H locs hP hD hS => ?_)
      exact K H locs _ _ ⟨.null, zp, _, _, _, _, _, _, _, _, _, _, _, _, _, _, _, _, _, ov, [], Pl, K0, K1, K2, K3, hP, hD, hB, Or.inl ⟨rfl, rfl⟩, iP, i0, i1, i2, i3, (by simp only [lS, lPl, lK, List.length_nil] at *; omega), (by simp only [lS, lPl, lK, List.length_nil] at *; omega)⟩ hS
    · refine lc_go_search01 Cx  e1 e2 hP hD hS hl (by omega) (by omega) (fun sa H locs hP hD hS => ?_)
      obtain ⟨hP, hD⟩ := jl_perm lw_pS.symm hP hD
      exact K H locs _ _ ⟨.ref (sa 0), zp, _, _, _, _, _, _, _, _, _, _, _, _, _, _, _, _, _, ov, _, Pl, K0, K1, K2, K3, hP, hD, hB, Or.inr ⟨sa, _, _, rfl, rfl, hs⟩, iP, i0, i1, i2, i3, (by simp only [lS, lPl, lK, List.length_nil] at *; omega), (by simp only [lS, lPl, lK, List.length_nil] at *; omega)⟩ hS
  · obtain ⟨r0, k_statusz, k_chart_takenz, k_chart_placez, k_log_donez, k_log_undonez, k_search_foundz, k_search_queuedz, k_search_spentz, k_search_board_widthz, k_search_board_heightz, k_search_board_bargesz, k_search_board_wallsz, k_search_board_takenz, k_search_board_kindz, k_search_board_placez, k_search_board_lengthz, k_search_board_gatez, k_search_board_acrossz, k_search_board_widez, k_search_board_highz, k_search_board_shapez, k_search_lowz, k_search_highz, k_search_slotsz, k_search_slotForz, k_search_movesz, k_search_distancez, k_search_queuez, k_statuszz, k_thrownzz, k_undoManyzz, k_redoManyzz, k_standszz, k_edgeszz, k_atzz, k_placeszz, k_headszz, k_chainzz, k_depthzz, k_parentzz, k_byBargezz, k_byWayzz, k_byStepszz, k_farzz, k_firstEdgezz, k_edgezz, k_edgeBargezz, k_whozz, k_herezz, e1, e2, hB, hs⟩ := pk_go_1 (tr := tr) (sh := sh) (mp := mp) (ms := ms) (mk := mk) (mt := mt) (bd := bd) hB hs 
    obtain ⟨hP, hD⟩ := jl_perm lw_pS hP hD
    refine lc_go_search11 Cx  e1 e2 hP hD hS hl (by omega) (by omega) (fun H locs hP hD hS => ?_)
    obtain ⟨hP, hD⟩ := jl_perm lw_pS.symm hP hD
    exact K H locs _ _ ⟨.ref (sa 0), zp, _, _, _, _, _, _, _, _, _, _, _, _, _, _, _, _, _, ov, _, Pl, K0, K1, K2, K3, hP, hD, hB, Or.inr ⟨sa, _, _, rfl, rfl, hs⟩, iP, i0, i1, i2, i3, (by simp only [lS, lPl, lK, List.length_nil] at *; omega), (by simp only [lS, lPl, lK, List.length_nil] at *; omega)⟩ hS
set_option maxHeartbeats 4000000 in
set_option maxRecDepth 100000 in
theorem st_trim {p : Program} {l : Launch} {e : Env} {s : State} {m : MethodId} {below : List Frame} {meth : Method} {cd : Code} {Q : State → Prop} {H : Heap} {locs : List Loc} {cells slots : Nat} {ls : Array Slot} {b L : Nat} {xs : Nat → Int32} {D : va_G} {cT : Nat → ClassId} {A : Nat → Prop} {aS aX aY : Nat} {xa ma : Nat → Nat} {oa j : Nat} {x4 : Int32} (Cx : lwCx p s m cd b L xs D cT A aS aX aY) (hin : vp_in (x4 + 1) L ∧ vp_in (x4 + 2) L ∧ vp_in (x4 + 3) L ∧ vp_in (x4 + 4) L ∧ vp_in (x4 + 5) L) (hj : j ≤ 511) (hl : lv_has ls 7 [(0, .ref b), (1, .ref (xa 0)), (2, .ref (ma 0)), (3, .ref oa), (4, .int x4)]) (hI : lwI D cT A xa ma oa H cells slots j) (hS : va_S A s.heap H locs) (K : ∀ (H : Heap) (locs : List Loc) (nC nS : Nat), lwI D cT A xa ma oa H nC nS (j + 1) → va_S A s.heap H locs → W p l e room_1 s m #[Value.ref b] below meth cd H locs nC nS Q (F0 m 1291 ls [])) : W p l e room_1 s m #[Value.ref b] below meth cd H locs cells slots Q (F0 m 1106 ls []) := by
  obtain ⟨zs, zp, o, ln, c, tr, g, sh, sw, mi, mw, mp, ml, mb, mu, ms, mk, mo, mt, ov, S, Pl, K0, K1, K2, K3, hP, hD, hB, iR, iP, i0, i1, i2, i3, iC, iN⟩ := hI
  obtain ⟨hi1, hi2, hi3, hi4, hi5⟩ := hin
  have lR := sr_len iR
  have lP := pl_len iP
  have l0 := kp_len i0
  have l1 := kp_len i1
  have l2 := kp_len i2
  have l3 := kp_len i3
  have lS : ∀ (sa : Nat → Nat) (sv : qS) (bd : qC), (wS sa cT sv bd).length = 18 := fun _ _ _ => rfl
  have lPl : ∀ (pa : Nat → Nat) (pv : qP), (wP pa cT pv).length = 2 := fun _ _ => rfl
  have lK : ∀ (ka : Nat → Nat) (kc : qC), (wK ka cT kc).length = 9 := fun _ _ => rfl
  rcases iR with ⟨rfl, rfl⟩ | ⟨sa, sv, bd, rfl, rfl, hs⟩
  · rcases pk_trim_0 (tr := tr) (sh := sh) (mp := mp) (ms := ms) (mk := mk) (mt := mt) hB  with ⟨r0, k_statusz, k_statuszz, k_thrownzz, k_bargeszz, k_undoManyzz, k_redoManyzz, k_standszz, k_edgeszz, k_lineSortzz, k_lineManyzz, k_numberszz, k_wallzz, k_kindzz, k_atzz, k_sizezz, k_wayzz, k_gatezz, k_placeszz, k_headszz, k_chainzz, k_depthzz, k_parentzz, k_byBargezz, k_byWayzz, k_byStepszz, k_farzz, k_firstEdgezz, k_edgezz, k_edgeBargezz, k_whozz, k_herezz, e1, e2, hB⟩ | ⟨r0, k_statusz, k_lines_sortz, k_lines_sizez, k_lines_numbersz, k_chart_bargesz, k_chart_wallsz, k_chart_takenz, k_chart_kindz, k_chart_placez, k_chart_lengthz, k_chart_gatez, k_chart_acrossz, k_chart_widez, k_chart_highz, k_chart_shapez, k_trial_widthz, k_trial_heightz, k_trial_bargesz, k_trial_wallsz, k_trial_takenz, k_trial_kindz, k_trial_placez, k_trial_lengthz, k_trial_gatez, k_trial_acrossz, k_trial_widez, k_trial_highz, k_trial_shapez, k_log_donez, k_log_undonez, k_search_foundz, k_search_queuedz, k_search_spentz, k_search_board_widthz, k_search_board_heightz, k_search_board_bargesz, k_search_board_wallsz, k_search_board_takenz, k_search_board_kindz, k_search_board_placez, k_search_board_lengthz, k_search_board_gatez, k_search_board_acrossz, k_search_board_widez, k_search_board_highz, k_search_board_shapez, k_search_lowz, k_search_highz, k_search_slotsz, k_search_slotForz, k_search_movesz, k_search_distancez, k_search_queuez, k_statuszz, k_thrownzz, k_bargeszz, k_undoManyzz, k_redoManyzz, k_standszz, k_edgeszz, k_lineSortzz, k_lineManyzz, k_numberszz, k_wallzz, k_kindzz, k_atzz, k_sizezz, k_wayzz, k_gatezz, k_placeszz, k_headszz, k_chainzz, k_depthzz, k_parentzz, k_byBargezz, k_byWayzz, k_byStepszz, k_farzz, k_firstEdgezz, k_edgezz, k_edgeBargezz, k_whozz, k_herezz, e1, e2, hB, hs⟩
    · refine lc_trim_search00 Cx  e1 e2 hP hD hS hl (by omega) (by omega) (fun H locs hP hD hS => ?_)
      exact K H locs _ _ ⟨.null, zp, _, _, _, _, _, _, _, _, _, _, _, _, _, _, _, _, _, ov, [], Pl, K0, K1, K2, K3, hP, hD, hB, Or.inl ⟨rfl, rfl⟩, iP, i0, i1, i2, i3, (by simp only [lS, lPl, lK, List.length_nil] at *; omega), (by simp only [lS, lPl, lK, List.length_nil] at *; omega)⟩ hS
    · refine lc_trim_search01 Cx  e1 e2 hP hD hS hl (by omega) (by omega) (fun sa H locs hP hD hS => ?_)
      obtain ⟨hP, hD⟩ := jl_perm lw_pS.symm hP hD
      exact K H locs _ _ ⟨.ref (sa 0), zp, _, _, _, _, _, _, _, _, _, _, _, _, _, _, _, _, _, ov, _, Pl, K0, K1, K2, K3, hP, hD, hB, Or.inr ⟨sa, _, _, rfl, rfl, hs⟩, iP, i0, i1, i2, i3, (by simp only [lS, lPl, lK, List.length_nil] at *; omega), (by simp only [lS, lPl, lK, List.length_nil] at *; omega)⟩ hS
  · obtain ⟨r0, k_statusz, k_lines_sortz, k_lines_sizez, k_lines_numbersz, k_chart_bargesz, k_chart_wallsz, k_chart_takenz, k_chart_kindz, k_chart_placez, k_chart_lengthz, k_chart_gatez, k_chart_acrossz, k_chart_widez, k_chart_highz, k_chart_shapez, k_trial_widthz, k_trial_heightz, k_trial_bargesz, k_trial_wallsz, k_trial_takenz, k_trial_kindz, k_trial_placez, k_trial_lengthz, k_trial_gatez, k_trial_acrossz, k_trial_widez, k_trial_highz, k_trial_shapez, k_log_donez, k_log_undonez, k_search_foundz, k_search_queuedz, k_search_spentz, k_search_board_widthz, k_search_board_heightz, k_search_board_bargesz, k_search_board_wallsz, k_search_board_takenz, k_search_board_kindz, k_search_board_placez, k_search_board_lengthz, k_search_board_gatez, k_search_board_acrossz, k_search_board_widez, k_search_board_highz, k_search_board_shapez, k_search_lowz, k_search_highz, k_search_slotsz, k_search_slotForz, k_search_movesz, k_search_distancez, k_search_queuez, k_statuszz, k_thrownzz, k_bargeszz, k_undoManyzz, k_redoManyzz, k_standszz, k_edgeszz, k_lineSortzz, k_lineManyzz, k_numberszz, k_wallzz, k_kindzz, k_atzz, k_sizezz, k_wayzz, k_gatezz, k_placeszz, k_headszz, k_chainzz, k_depthzz, k_parentzz, k_byBargezz, k_byWayzz, k_byStepszz, k_farzz, k_firstEdgezz, k_edgezz, k_edgeBargezz, k_whozz, k_herezz, e1, e2, hB, hs⟩ := pk_trim_1 (tr := tr) (sh := sh) (mp := mp) (ms := ms) (mk := mk) (mt := mt) (bd := bd) hB hs 
    obtain ⟨hP, hD⟩ := jl_perm lw_pS hP hD
    refine lc_trim_search11 Cx  e1 e2 hP hD hS hl (by omega) (by omega) (fun H locs hP hD hS => ?_)
    obtain ⟨hP, hD⟩ := jl_perm lw_pS.symm hP hD
    exact K H locs _ _ ⟨.ref (sa 0), zp, _, _, _, _, _, _, _, _, _, _, _, _, _, _, _, _, _, ov, _, Pl, K0, K1, K2, K3, hP, hD, hB, Or.inr ⟨sa, _, _, rfl, rfl, hs⟩, iP, i0, i1, i2, i3, (by simp only [lS, lPl, lK, List.length_nil] at *; omega), (by simp only [lS, lPl, lK, List.length_nil] at *; omega)⟩ hS
