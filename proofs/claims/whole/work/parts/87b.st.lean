set_option maxHeartbeats 4000000 in
set_option maxRecDepth 100000 in
theorem st_reach {p : Program} {l : Launch} {e : Env} {s : State} {m : MethodId} {below : List Frame} {meth : Method} {cd : Code} {Q : State → Prop} {H : Heap} {locs : List Loc} {cells slots : Nat} {ls : Array Slot} {b L : Nat} {xs : Nat → Int32} {D : va_G} {cT : Nat → ClassId} {A : Nat → Prop} {aS aX aY : Nat} {xa ma : Nat → Nat} {oa j : Nat} {x4 : Int32} (Cx : lwCx p s m cd b L xs D cT A aS aX aY) (hin : vp_in (x4 + 1) L ∧ vp_in (x4 + 2) L ∧ vp_in (x4 + 3) L ∧ vp_in (x4 + 4) L ∧ vp_in (x4 + 5) L) (hj : j ≤ 511) (hl : lv_has ls 7 [(0, .ref b), (1, .ref (xa 0)), (2, .ref (ma 0)), (3, .ref oa), (4, .int x4)]) (hI : lwI D cT A xa ma oa H cells slots j) (hS : va_S A s.heap H locs) (K : ∀ (H : Heap) (locs : List Loc) (nC nS : Nat), lwI D cT A xa ma oa H nC nS (j + 1) → va_S A s.heap H locs → W p l e room_1 s m #[Value.ref b] below meth cd H locs nC nS Q (F0 m 1291 ls [])) : W p l e room_1 s m #[Value.ref b] below meth cd H locs cells slots Q (F0 m 1030 ls []) := by
  obtain ⟨zs, zp, o, ln, c, tr, g, sh, sw, mi, mw, mp, ml, mb, mu, ms, mk, mo, mt, ov, S, Pl, K0, K1, K2, K3, hP, hD, hB, iR, iP, i0, i1, i2, i3, iC, iN⟩ := hI
  obtain ⟨hi1, hi2, hi3, hi4, hi5⟩ := hin
  have lR := sr_len iR
  have lP := pl_len iP
  have l0 := kp_len i0
  have l1 := kp_len i1
  have l2 := kp_len i2
  have l3 := kp_len i3
  have lS : ∀ (sa : Nat → Nat) (sv : qS) (bd : qC), (wS sa cT sv bd).length = 18 := fun _ _ _ => rfl
  have lPl : ∀ (pa : Nat → Nat) (pv : qP), (wP pa cT pv).length = 2 := fun _ _ => rfl
  have lK : ∀ (ka : Nat → Nat) (kc : qC), (wK ka cT kc).length = 9 := fun _ _ => rfl
  rcases iR with ⟨rfl, rfl⟩ | ⟨sa, sv, bd, rfl, rfl, hs⟩
  · rcases pk_reach_0 (tr := tr) (sh := sh) (mp := mp) (ms := ms) (mk := mk) (mt := mt) hB  with ⟨r0, k_status', k_status'', k_thrown'', k_stands'', k_edges'', k_places'', k_heads'', k_chain'', k_depth'', k_parent'', k_byBarge'', k_byWay'', k_bySteps'', k_firstEdge'', k_edge'', k_edgeBarge'', k_who'', k_here'', e1, e2, hB⟩ | ⟨r0, k_status', k_search_found', k_search_spent', k_search_board_width', k_search_board_height', k_search_board_barges', k_search_board_walls', k_search_board_taken', k_search_board_kind', k_search_board_place', k_search_board_length', k_search_board_gate', k_search_board_across', k_search_board_wide', k_search_board_high', k_search_board_shape', k_search_low', k_search_high', k_search_slots', k_search_slotFor', k_search_moves', k_status'', k_thrown'', k_stands'', k_edges'', k_places'', k_heads'', k_chain'', k_depth'', k_parent'', k_byBarge'', k_byWay'', k_bySteps'', k_firstEdge'', k_edge'', k_edgeBarge'', k_who'', k_here'', e1, e2, hB, hs⟩
    · refine lc_reach_search00 Cx  e1 e2 hP hD hS hl (by omega) (by omega) (fun H locs hP hD hS => ?_)
      exact K H locs _ _ ⟨.null, zp, _, _, _, _, _, _, _, _, _, _, _, _, _, _, _, _, _, ov, [], Pl, K0, K1, K2, K3, hP, hD, hB, Or.inl ⟨rfl, rfl⟩, iP, i0, i1, i2, i3, (by simp only [lS, lPl, lK, List.length_nil] at *; omega), (by simp only [lS, lPl, lK, List.length_nil] at *; omega)⟩ hS
    · refine lc_reach_search01 Cx  e1 e2 hP hD hS hl (by omega) (by omega) (fun sa H locs hP hD hS => ?_)
      obtain ⟨hP, hD⟩ := jl_perm lw_pS.symm hP hD
      exact K H locs _ _ ⟨.ref (sa 0), zp, _, _, _, _, _, _, _, _, _, _, _, _, _, _, _, _, _, ov, _, Pl, K0, K1, K2, K3, hP, hD, hB, Or.inr ⟨sa, _, _, rfl, rfl, hs⟩, iP, i0, i1, i2, i3, (by simp only [lS, lPl, lK, List.length_nil] at *; omega), (by simp only [lS, lPl, lK, List.length_nil] at *; omega)⟩ hS
  · obtain ⟨r0, k_status', k_search_found', k_search_spent', k_search_board_width', k_search_board_height', k_search_board_barges', k_search_board_walls', k_search_board_taken', k_search_board_kind', k_search_board_place', k_search_board_length', k_search_board_gate', k_search_board_across', k_search_board_wide', k_search_board_high', k_search_board_shape', k_search_low', k_search_high', k_search_slots', k_search_slotFor', k_search_moves', k_status'', k_thrown'', k_stands'', k_edges'', k_places'', k_heads'', k_chain'', k_depth'', k_parent'', k_byBarge'', k_byWay'', k_bySteps'', k_firstEdge'', k_edge'', k_edgeBarge'', k_who'', k_here'', e1, e2, hB, hs⟩ := pk_reach_1 (tr := tr) (sh := sh) (mp := mp) (ms := ms) (mk := mk) (mt := mt) (bd := bd) hB hs 
    obtain ⟨hP, hD⟩ := jl_perm lw_pS hP hD
    refine lc_reach_search11 Cx  e1 e2 hP hD hS hl (by omega) (by omega) (fun H locs hP hD hS => ?_)
    obtain ⟨hP, hD⟩ := jl_perm lw_pS.symm hP hD
    exact K H locs _ _ ⟨.ref (sa 0), zp, _, _, _, _, _, _, _, _, _, _, _, _, _, _, _, _, _, ov, _, Pl, K0, K1, K2, K3, hP, hD, hB, Or.inr ⟨sa, _, _, rfl, rfl, hs⟩, iP, i0, i1, i2, i3, (by simp only [lS, lPl, lK, List.length_nil] at *; omega), (by simp only [lS, lPl, lK, List.length_nil] at *; omega)⟩ hS
set_option maxHeartbeats 4000000 in
set_option maxRecDepth 100000 in
theorem st_far {p : Program} {l : Launch} {e : Env} {s : State} {m : MethodId} {below : List Frame} {meth : Method} {cd : Code} {Q : State → Prop} {H : Heap} {locs : List Loc} {cells slots : Nat} {ls : Array Slot} {b L : Nat} {xs : Nat → Int32} {D : va_G} {cT : Nat → ClassId} {A : Nat → Prop} {aS aX aY : Nat} {xa ma : Nat → Nat} {oa j : Nat} {x4 : Int32} (Cx : lwCx p s m cd b L xs D cT A aS aX aY) (hin : vp_in (x4 + 1) L ∧ vp_in (x4 + 2) L ∧ vp_in (x4 + 3) L ∧ vp_in (x4 + 4) L ∧ vp_in (x4 + 5) L) (hj : j ≤ 511) (hl : lv_has ls 7 [(0, .ref b), (1, .ref (xa 0)), (2, .ref (ma 0)), (3, .ref oa), (4, .int x4)]) (hI : lwI D cT A xa ma oa H cells slots j) (hS : va_S A s.heap H locs) (K : ∀ (H : Heap) (locs : List Loc) (nC nS : Nat), lwI D cT A xa ma oa H nC nS (j + 1) → va_S A s.heap H locs → W p l e room_1 s m #[Value.ref b] below meth cd H locs nC nS Q (F0 m 1291 ls [])) : W p l e room_1 s m #[Value.ref b] below meth cd H locs cells slots Q (F0 m 1043 ls []) := by
  obtain ⟨zs, zp, o, ln, c, tr, g, sh, sw, mi, mw, mp, ml, mb, mu, ms, mk, mo, mt, ov, S, Pl, K0, K1, K2, K3, hP, hD, hB, iR, iP, i0, i1, i2, i3, iC, iN⟩ := hI
  obtain ⟨hi1, hi2, hi3, hi4, hi5⟩ := hin
  have lR := sr_len iR
  have lP := pl_len iP
  have l0 := kp_len i0
  have l1 := kp_len i1
  have l2 := kp_len i2
  have l3 := kp_len i3
  have lS : ∀ (sa : Nat → Nat) (sv : qS) (bd : qC), (wS sa cT sv bd).length = 18 := fun _ _ _ => rfl
  have lPl : ∀ (pa : Nat → Nat) (pv : qP), (wP pa cT pv).length = 2 := fun _ _ => rfl
  have lK : ∀ (ka : Nat → Nat) (kc : qC), (wK ka cT kc).length = 9 := fun _ _ => rfl
  rcases iR with ⟨rfl, rfl⟩ | ⟨sa, sv, bd, rfl, rfl, hs⟩
  · rcases pk_far_0 (tr := tr) (sh := sh) (mp := mp) (ms := ms) (mk := mk) (mt := mt) hB  with ⟨r0, k_status', k_status'', k_thrown'', k_stands'', k_edges'', k_places'', k_heads'', k_chain'', k_depth'', k_parent'', k_byBarge'', k_byWay'', k_bySteps'', k_far'', k_firstEdge'', k_edge'', k_edgeBarge'', k_who'', k_here'', e1, e2, hB⟩ | ⟨r0, k_status', k_search_found', k_search_queued', k_search_spent', k_search_board_width', k_search_board_height', k_search_board_barges', k_search_board_walls', k_search_board_taken', k_search_board_kind', k_search_board_place', k_search_board_length', k_search_board_gate', k_search_board_across', k_search_board_wide', k_search_board_high', k_search_board_shape', k_search_low', k_search_high', k_search_slots', k_search_slotFor', k_search_moves', k_search_distance', k_search_queue', k_status'', k_thrown'', k_stands'', k_edges'', k_places'', k_heads'', k_chain'', k_depth'', k_parent'', k_byBarge'', k_byWay'', k_bySteps'', k_far'', k_firstEdge'', k_edge'', k_edgeBarge'', k_who'', k_here'', e1, e2, hB, hs⟩
    · refine lc_far_search00 Cx  e1 e2 hP hD hS hl (by omega) (by omega) (fun H locs hP hD hS => ?_)
      exact K H locs _ _ ⟨.null, zp, _, _, _, _, _, _, _, _, _, _, _, _, _, _, _, _, _, ov, [], Pl, K0, K1, K2, K3, hP, hD, hB, Or.inl ⟨rfl, rfl⟩, iP, i0, i1, i2, i3, (by simp only [lS, lPl, lK, List.length_nil] at *; omega), (by simp only [lS, lPl, lK, List.length_nil] at *; omega)⟩ hS
    · refine lc_far_search01 Cx  e1 e2 hP hD hS hl (by omega) (by omega) (fun sa H locs hP hD hS => ?_)
      obtain ⟨hP, hD⟩ := jl_perm lw_pS.symm hP hD
      exact K H locs _ _ ⟨.ref (sa 0), zp, _, _, _, _, _, _, _, _, _, _, _, _, _, _, _, _, _, ov, _, Pl, K0, K1, K2, K3, hP, hD, hB, Or.inr ⟨sa, _, _, rfl, rfl, hs⟩, iP, i0, i1, i2, i3, (by simp only [lS, lPl, lK, List.length_nil] at *; omega), (by simp only [lS, lPl, lK, List.length_nil] at *; omega)⟩ hS
  · obtain ⟨r0, k_status', k_search_found', k_search_queued', k_search_spent', k_search_board_width', k_search_board_height', k_search_board_barges', k_search_board_walls', k_search_board_taken', k_search_board_kind', k_search_board_place', k_search_board_length', k_search_board_gate', k_search_board_across', k_search_board_wide', k_search_board_high', k_search_board_shape', k_search_low', k_search_high', k_search_slots', k_search_slotFor', k_search_moves', k_search_distance', k_search_queue', k_status'', k_thrown'', k_stands'', k_edges'', k_places'', k_heads'', k_chain'', k_depth'', k_parent'', k_byBarge'', k_byWay'', k_bySteps'', k_far'', k_firstEdge'', k_edge'', k_edgeBarge'', k_who'', k_here'', e1, e2, hB, hs⟩ := pk_far_1 (tr := tr) (sh := sh) (mp := mp) (ms := ms) (mk := mk) (mt := mt) (bd := bd) hB hs 
    obtain ⟨hP, hD⟩ := jl_perm lw_pS hP hD
    refine lc_far_search11 Cx  e1 e2 hP hD hS hl (by omega) (by omega) (fun H locs hP hD hS => ?_)
    obtain ⟨hP, hD⟩ := jl_perm lw_pS.symm hP hD
    exact K H locs _ _ ⟨.ref (sa 0), zp, _, _, _, _, _, _, _, _, _, _, _, _, _, _, _, _, _, ov, _, Pl, K0, K1, K2, K3, hP, hD, hB, Or.inr ⟨sa, _, _, rfl, rfl, hs⟩, iP, i0, i1, i2, i3, (by simp only [lS, lPl, lK, List.length_nil] at *; omega), (by simp only [lS, lPl, lK, List.length_nil] at *; omega)⟩ hS
set_option maxHeartbeats 4000000 in
set_option maxRecDepth 100000 in
theorem st_all {p : Program} {l : Launch} {e : Env} {s : State} {m : MethodId} {below : List Frame} {meth : Method} {cd : Code} {Q : State → Prop} {H : Heap} {locs : List Loc} {cells slots : Nat} {ls : Array Slot} {b L : Nat} {xs : Nat → Int32} {D : va_G} {cT : Nat → ClassId} {A : Nat → Prop} {aS aX aY : Nat} {xa ma : Nat → Nat} {oa j : Nat} {x4 : Int32} (Cx : lwCx p s m cd b L xs D cT A aS aX aY) (hin : vp_in (x4 + 1) L ∧ vp_in (x4 + 2) L ∧ vp_in (x4 + 3) L ∧ vp_in (x4 + 4) L ∧ vp_in (x4 + 5) L) (hj : j ≤ 511) (hl : lv_has ls 7 [(0, .ref b), (1, .ref (xa 0)), (2, .ref (ma 0)), (3, .ref oa), (4, .int x4)]) (hI : lwI D cT A xa ma oa H cells slots j) (hS : va_S A s.heap H locs) (K : ∀ (H : Heap) (locs : List Loc) (nC nS : Nat), lwI D cT A xa ma oa H nC nS (j + 1) → va_S A s.heap H locs → W p l e room_1 s m #[Value.ref b] below meth cd H locs nC nS Q (F0 m 1291 ls [])) : W p l e room_1 s m #[Value.ref b] below meth cd H locs cells slots Q (F0 m 978 ls []) := by
  obtain ⟨zs, zp, o, ln, c, tr, g, sh, sw, mi, mw, mp, ml, mb, mu, ms, mk, mo, mt, ov, S, Pl, K0, K1, K2, K3, hP, hD, hB, iR, iP, i0, i1, i2, i3, iC, iN⟩ := hI
  obtain ⟨hi1, hi2, hi3, hi4, hi5⟩ := hin
  have lR := sr_len iR
  have lP := pl_len iP
  have l0 := kp_len i0
  have l1 := kp_len i1
  have l2 := kp_len i2
  have l3 := kp_len i3
  have lS : ∀ (sa : Nat → Nat) (sv : qS) (bd : qC), (wS sa cT sv bd).length = 18 := fun _ _ _ => rfl
  have lPl : ∀ (pa : Nat → Nat) (pv : qP), (wP pa cT pv).length = 2 := fun _ _ => rfl
  have lK : ∀ (ka : Nat → Nat) (kc : qC), (wK ka cT kc).length = 9 := fun _ _ => rfl
  rcases iR with ⟨rfl, rfl⟩ | ⟨sa, sv, bd, rfl, rfl, hs⟩
  · rcases pk_all_0 (tr := tr) (sh := sh) (mp := mp) (ms := ms) (mk := mk) (mt := mt) hB  with ⟨r0, k_status', k_status'', k_thrown'', k_stands'', k_edges'', k_places'', k_heads'', k_chain'', k_depth'', k_parent'', k_byBarge'', k_byWay'', k_bySteps'', k_firstEdge'', k_edge'', k_edgeBarge'', k_count'', k_who'', k_here'', e1, e2, hB⟩ | ⟨r0, k_status', k_search_found', k_search_queued', k_search_spent', k_search_board_width', k_search_board_height', k_search_board_barges', k_search_board_walls', k_search_board_taken', k_search_board_kind', k_search_board_place', k_search_board_length', k_search_board_gate', k_search_board_across', k_search_board_wide', k_search_board_high', k_search_board_shape', k_search_low', k_search_high', k_search_slots', k_search_slotFor', k_search_moves', k_search_distance', k_search_queue', k_search_ways', k_status'', k_thrown'', k_stands'', k_edges'', k_places'', k_heads'', k_chain'', k_depth'', k_parent'', k_byBarge'', k_byWay'', k_bySteps'', k_firstEdge'', k_edge'', k_edgeBarge'', k_count'', k_who'', k_here'', e1, e2, hB, hs⟩
    · refine lc_all_search00 Cx  e1 e2 hP hD hS hl (by omega) (by omega) (fun H locs hP hD hS => ?_)
      exact K H locs _ _ ⟨.null, zp, _, _, _, _, _, _, _, _, _, _, _, _, _, _, _, _, _, ov, [], Pl, K0, K1, K2, K3, hP, hD, hB, Or.inl ⟨rfl, rfl⟩, iP, i0, i1, i2, i3, (by simp only [lS, lPl, lK, List.length_nil] at *; omega), (by simp only [lS, lPl, lK, List.length_nil] at *; omega)⟩ hS
    · refine lc_all_search01 Cx  e1 e2 hP hD hS hl (by omega) (by omega) (fun sa H locs hP hD hS => ?_)
      obtain ⟨hP, hD⟩ := jl_perm lw_pS.symm hP hD
      exact K H locs _ _ ⟨.ref (sa 0), zp, _, _, _, _, _, _, _, _, _, _, _, _, _, _, _, _, _, ov, _, Pl, K0, K1, K2, K3, hP, hD, hB, Or.inr ⟨sa, _, _, rfl, rfl, hs⟩, iP, i0, i1, i2, i3, (by simp only [lS, lPl, lK, List.length_nil] at *; omega), (by simp only [lS, lPl, lK, List.length_nil] at *; omega)⟩ hS
  · obtain ⟨r0, k_status', k_search_found', k_search_queued', k_search_spent', k_search_board_width', k_search_board_height', k_search_board_barges', k_search_board_walls', k_search_board_taken', k_search_board_kind', k_search_board_place', k_search_board_length', k_search_board_gate', k_search_board_across', k_search_board_wide', k_search_board_high', k_search_board_shape', k_search_low', k_search_high', k_search_slots', k_search_slotFor', k_search_moves', k_search_distance', k_search_queue', k_search_ways', k_status'', k_thrown'', k_stands'', k_edges'', k_places'', k_heads'', k_chain'', k_depth'', k_parent'', k_byBarge'', k_byWay'', k_bySteps'', k_firstEdge'', k_edge'', k_edgeBarge'', k_count'', k_who'', k_here'', e1, e2, hB, hs⟩ := pk_all_1 (tr := tr) (sh := sh) (mp := mp) (ms := ms) (mk := mk) (mt := mt) (bd := bd) hB hs 
    obtain ⟨hP, hD⟩ := jl_perm lw_pS hP hD
    refine lc_all_search11 Cx  e1 e2 hP hD hS hl (by omega) (by omega) (fun H locs hP hD hS => ?_)
    obtain ⟨hP, hD⟩ := jl_perm lw_pS.symm hP hD
    exact K H locs _ _ ⟨.ref (sa 0), zp, _, _, _, _, _, _, _, _, _, _, _, _, _, _, _, _, _, ov, _, Pl, K0, K1, K2, K3, hP, hD, hB, Or.inr ⟨sa, _, _, rfl, rfl, hs⟩, iP, i0, i1, i2, i3, (by simp only [lS, lPl, lK, List.length_nil] at *; omega), (by simp only [lS, lPl, lK, List.length_nil] at *; omega)⟩ hS
set_option maxHeartbeats 4000000 in
set_option maxRecDepth 100000 in
theorem st_must {p : Program} {l : Launch} {e : Env} {s : State} {m : MethodId} {below : List Frame} {meth : Method} {cd : Code} {Q : State → Prop} {H : Heap} {locs : List Loc} {cells slots : Nat} {ls : Array Slot} {b L : Nat} {xs : Nat → Int32} {D : va_G} {cT : Nat → ClassId} {A : Nat → Prop} {aS aX aY : Nat} {xa ma : Nat → Nat} {oa j : Nat} {x4 : Int32} (Cx : lwCx p s m cd b L xs D cT A aS aX aY) (hin : vp_in (x4 + 1) L ∧ vp_in (x4 + 2) L ∧ vp_in (x4 + 3) L ∧ vp_in (x4 + 4) L ∧ vp_in (x4 + 5) L) (hj : j ≤ 511) (hl : lv_has ls 7 [(0, .ref b), (1, .ref (xa 0)), (2, .ref (ma 0)), (3, .ref oa), (4, .int x4)]) (hI : lwI D cT A xa ma oa H cells slots j) (hS : va_S A s.heap H locs) (K : ∀ (H : Heap) (locs : List Loc) (nC nS : Nat), lwI D cT A xa ma oa H nC nS (j + 1) → va_S A s.heap H locs → W p l e room_1 s m #[Value.ref b] below meth cd H locs nC nS Q (F0 m 1291 ls [])) : W p l e room_1 s m #[Value.ref b] below meth cd H locs cells slots Q (F0 m 992 ls []) := by
  obtain ⟨zs, zp, o, ln, c, tr, g, sh, sw, mi, mw, mp, ml, mb, mu, ms, mk, mo, mt, ov, S, Pl, K0, K1, K2, K3, hP, hD, hB, iR, iP, i0, i1, i2, i3, iC, iN⟩ := hI
  obtain ⟨hi1, hi2, hi3, hi4, hi5⟩ := hin
  have lR := sr_len iR
  have lP := pl_len iP
  have l0 := kp_len i0
  have l1 := kp_len i1
  have l2 := kp_len i2
  have l3 := kp_len i3
  have lS : ∀ (sa : Nat → Nat) (sv : qS) (bd : qC), (wS sa cT sv bd).length = 18 := fun _ _ _ => rfl
  have lPl : ∀ (pa : Nat → Nat) (pv : qP), (wP pa cT pv).length = 2 := fun _ _ => rfl
  have lK : ∀ (ka : Nat → Nat) (kc : qC), (wK ka cT kc).length = 9 := fun _ _ => rfl
  rcases iR with ⟨rfl, rfl⟩ | ⟨sa, sv, bd, rfl, rfl, hs⟩
  · rcases pk_must_0 (tr := tr) (sh := sh) (mp := mp) (ms := ms) (mk := mk) (mt := mt) hB (xs (x4 + 1).toNatClampNeg) with ⟨r0, k_status', k_status'', k_thrown'', k_stands'', k_edges'', k_places'', k_heads'', k_chain'', k_depth'', k_parent'', k_byBarge'', k_byWay'', k_bySteps'', k_firstEdge'', k_edge'', k_edgeBarge'', k_count'', k_who'', k_here'', e1, e2, hB⟩ | ⟨r0, k_status', k_search_found', k_search_queued', k_search_spent', k_search_board_width', k_search_board_height', k_search_board_barges', k_search_board_walls', k_search_board_taken', k_search_board_kind', k_search_board_place', k_search_board_length', k_search_board_gate', k_search_board_across', k_search_board_wide', k_search_board_high', k_search_board_shape', k_search_low', k_search_high', k_search_slots', k_search_slotFor', k_search_moves', k_search_distance', k_search_queue', k_search_ways', k_status'', k_thrown'', k_stands'', k_edges'', k_places'', k_heads'', k_chain'', k_depth'', k_parent'', k_byBarge'', k_byWay'', k_bySteps'', k_firstEdge'', k_edge'', k_edgeBarge'', k_count'', k_who'', k_here'', e1, e2, hB, hs⟩
    · refine lc_must_search00 Cx hi1 e1 e2 hP hD hS hl (by omega) (by omega) (fun H locs hP hD hS => ?_)
      exact K H locs _ _ ⟨.null, zp, _, _, _, _, _, _, _, _, _, _, _, _, _, _, _, _, _, ov, [], Pl, K0, K1, K2, K3, hP, hD, hB, Or.inl ⟨rfl, rfl⟩, iP, i0, i1, i2, i3, (by simp only [lS, lPl, lK, List.length_nil] at *; omega), (by simp only [lS, lPl, lK, List.length_nil] at *; omega)⟩ hS
    · refine lc_must_search01 Cx hi1 e1 e2 hP hD hS hl (by omega) (by omega) (fun sa H locs hP hD hS => ?_)
      obtain ⟨hP, hD⟩ := jl_perm lw_pS.symm hP hD
      exact K H locs _ _ ⟨.ref (sa 0), zp, _, _, _, _, _, _, _, _, _, _, _, _, _, _, _, _, _, ov, _, Pl, K0, K1, K2, K3, hP, hD, hB, Or.inr ⟨sa, _, _, rfl, rfl, hs⟩, iP, i0, i1, i2, i3, (by simp only [lS, lPl, lK, List.length_nil] at *; omega), (by simp only [lS, lPl, lK, List.length_nil] at *; omega)⟩ hS
  · obtain ⟨r0, k_status', k_search_found', k_search_queued', k_search_spent', k_search_board_width', k_search_board_height', k_search_board_barges', k_search_board_walls', k_search_board_taken', k_search_board_kind', k_search_board_place', k_search_board_length', k_search_board_gate', k_search_board_across', k_search_board_wide', k_search_board_high', k_search_board_shape', k_search_low', k_search_high', k_search_slots', k_search_slotFor', k_search_moves', k_search_distance', k_search_queue', k_search_ways', k_status'', k_thrown'', k_stands'', k_edges'', k_places'', k_heads'', k_chain'', k_depth'', k_parent'', k_byBarge'', k_byWay'', k_bySteps'', k_firstEdge'', k_edge'', k_edgeBarge'', k_count'', k_who'', k_here'', e1, e2, hB, hs⟩ := pk_must_1 (tr := tr) (sh := sh) (mp := mp) (ms := ms) (mk := mk) (mt := mt) (bd := bd) hB hs (xs (x4 + 1).toNatClampNeg)
    obtain ⟨hP, hD⟩ := jl_perm lw_pS hP hD
    refine lc_must_search11 Cx hi1 e1 e2 hP hD hS hl (by omega) (by omega) (fun H locs hP hD hS => ?_)
    obtain ⟨hP, hD⟩ := jl_perm lw_pS.symm hP hD
    exact K H locs _ _ ⟨.ref (sa 0), zp, _, _, _, _, _, _, _, _, _, _, _, _, _, _, _, _, _, ov, _, Pl, K0, K1, K2, K3, hP, hD, hB, Or.inr ⟨sa, _, _, rfl, rfl, hs⟩, iP, i0, i1, i2, i3, (by simp only [lS, lPl, lK, List.length_nil] at *; omega), (by simp only [lS, lPl, lK, List.length_nil] at *; omega)⟩ hS
set_option maxHeartbeats 4000000 in
set_option maxRecDepth 100000 in
theorem st_go {p : Program} {l : Launch} {e : Env} {s : State} {m : MethodId} {below : List Frame} {meth : Method} {cd : Code} {Q : State → Prop} {H : Heap} {locs : List Loc} {cells slots : Nat} {ls : Array Slot} {b L : Nat} {xs : Nat → Int32} {D : va_G} {cT : Nat → ClassId} {A : Nat → Prop} {aS aX aY : Nat} {xa ma : Nat → Nat} {oa j : Nat} {x4 : Int32} (Cx : lwCx p s m cd b L xs D cT A aS aX aY) (hin : vp_in (x4 + 1) L ∧ vp_in (x4 + 2) L ∧ vp_in (x4 + 3) L ∧ vp_in (x4 + 4) L ∧ vp_in (x4 + 5) L) (hj : j ≤ 511) (hl : lv_has ls 7 [(0, .ref b), (1, .ref (xa 0)), (2, .ref (ma 0)), (3, .ref oa), (4, .int x4)]) (hI : lwI D cT A xa ma oa H cells slots j) (hS : va_S A s.heap H locs) (K : ∀ (H : Heap) (locs : List Loc) (nC nS : Nat), lwI D cT A xa ma oa H nC nS (j + 1) → va_S A s.heap H locs → W p l e room_1 s m #[Value.ref b] below meth cd H locs nC nS Q (F0 m 1291 ls [])) : W p l e room_1 s m #[Value.ref b] below meth cd H locs cells slots Q (F0 m 1056 ls []) := by
  obtain ⟨zs, zp, o, ln, c, tr, g, sh, sw, mi, mw, mp, ml, mb, mu, ms, mk, mo, mt, ov, S, Pl, K0, K1, K2, K3, hP, hD, hB, iR, iP, i0, i1, i2, i3, iC, iN⟩ := hI
  obtain ⟨hi1, hi2, hi3, hi4, hi5⟩ := hin
  have lR := sr_len iR
  have lP := pl_len iP
  have l0 := kp_len i0
  have l1 := kp_len i1
  have l2 := kp_len i2
  have l3 := kp_len i3
  have lS : ∀ (sa : Nat → Nat) (sv : qS) (bd : qC), (wS sa cT sv bd).length = 18 := fun _ _ _ => rfl
  have lPl : ∀ (pa : Nat → Nat) (pv : qP), (wP pa cT pv).length = 2 := fun _ _ => rfl
  have lK : ∀ (ka : Nat → Nat) (kc : qC), (wK ka cT kc).length = 9 := fun _ _ => rfl
  rcases iR with ⟨rfl, rfl⟩ | ⟨sa, sv, bd, rfl, rfl, hs⟩
  · rcases pk_go_0 (tr := tr) (sh := sh) (mp := mp) (ms := ms) (mk := mk) (mt := mt) hB  with ⟨r0, k_status', k_status'', k_thrown'', k_undoMany'', k_redoMany'', k_stands'', k_edges'', k_at'', k_places'', k_heads'', k_chain'', k_depth'', k_parent'', k_byBarge'', k_byWay'', k_bySteps'', k_far'', k_firstEdge'', k_edge'', k_edgeBarge'', k_who'', k_here'', e1, e2, hB⟩ | ⟨r0, k_status', k_chart_taken', k_chart_place', k_log_done', k_log_undone', k_search_found', k_search_queued', k_search_spent', k_search_board_width', k_search_board_height', k_search_board_barges', k_search_board_walls', k_search_board_taken', k_search_board_kind', k_search_board_place', k_search_board_length', k_search_board_gate', k_search_board_across', k_search_board_wide', k_search_board_high', k_search_board_shape', k_search_low', k_search_high', k_search_slots', k_search_slotFor', k_search_moves', k_search_distance', k_search_queue', k_status'', k_thrown'', k_undoMany'', k_redoMany'', k_stands'', k_edges'', k_at'', k_places'', k_heads'', k_chain'', k_depth'', k_parent'', k_byBarge'', k_byWay'', k_bySteps'', k_far'', k_firstEdge'', k_edge'', k_edgeBarge'', k_who'', k_here'', e1, e2, hB, hs⟩
    · refine lc_go_search00 Cx  e1 e2 hP hD hS hl (by omega) (by omega) (fun H locs hP hD hS => ?_)
      exact K H locs _ _ ⟨.null, zp, _, _, _, _, _, _, _, _, _, _, _, _, _, _, _, _, _, ov, [], Pl, K0, K1, K2, K3, hP, hD, hB, Or.inl ⟨rfl, rfl⟩, iP, i0, i1, i2, i3, (by simp only [lS, lPl, lK, List.length_nil] at *; omega), (by simp only [lS, lPl, lK, List.length_nil] at *; omega)⟩ hS
    · refine lc_go_search01 Cx  e1 e2 hP hD hS hl (by omega) (by omega) (fun sa H locs hP hD hS => ?_)
      obtain ⟨hP, hD⟩ := jl_perm lw_pS.symm hP hD
      exact K H locs _ _ ⟨.ref (sa 0), zp, _, _, _, _, _, _, _, _, _, _, _, _, _, _, _, _, _, ov, _, Pl, K0, K1, K2, K3, hP, hD, hB, Or.inr ⟨sa, _, _, rfl, rfl, hs⟩, iP, i0, i1, i2, i3, (by simp only [lS, lPl, lK, List.length_nil] at *; omega), (by simp only [lS, lPl, lK, List.length_nil] at *; omega)⟩ hS
  · obtain ⟨r0, k_status', k_chart_taken', k_chart_place', k_log_done', k_log_undone', k_search_found', k_search_queued', k_search_spent', k_search_board_width', k_search_board_height', k_search_board_barges', k_search_board_walls', k_search_board_taken', k_search_board_kind', k_search_board_place', k_search_board_length', k_search_board_gate', k_search_board_across', k_search_board_wide', k_search_board_high', k_search_board_shape', k_search_low', k_search_high', k_search_slots', k_search_slotFor', k_search_moves', k_search_distance', k_search_queue', k_status'', k_thrown'', k_undoMany'', k_redoMany'', k_stands'', k_edges'', k_at'', k_places'', k_heads'', k_chain'', k_depth'', k_parent'', k_byBarge'', k_byWay'', k_bySteps'', k_far'', k_firstEdge'', k_edge'', k_edgeBarge'', k_who'', k_here'', e1, e2, hB, hs⟩ := pk_go_1 (tr := tr) (sh := sh) (mp := mp) (ms := ms) (mk := mk) (mt := mt) (bd := bd) hB hs 
    obtain ⟨hP, hD⟩ := jl_perm lw_pS hP hD
    refine lc_go_search11 Cx  e1 e2 hP hD hS hl (by omega) (by omega) (fun H locs hP hD hS => ?_)
    obtain ⟨hP, hD⟩ := jl_perm lw_pS.symm hP hD
    exact K H locs _ _ ⟨.ref (sa 0), zp, _, _, _, _, _, _, _, _, _, _, _, _, _, _, _, _, _, ov, _, Pl, K0, K1, K2, K3, hP, hD, hB, Or.inr ⟨sa, _, _, rfl, rfl, hs⟩, iP, i0, i1, i2, i3, (by simp only [lS, lPl, lK, List.length_nil] at *; omega), (by simp only [lS, lPl, lK, List.length_nil] at *; omega)⟩ hS
set_option maxHeartbeats 4000000 in
set_option maxRecDepth 100000 in
theorem st_trim {p : Program} {l : Launch} {e : Env} {s : State} {m : MethodId} {below : List Frame} {meth : Method} {cd : Code} {Q : State → Prop} {H : Heap} {locs : List Loc} {cells slots : Nat} {ls : Array Slot} {b L : Nat} {xs : Nat → Int32} {D : va_G} {cT : Nat → ClassId} {A : Nat → Prop} {aS aX aY : Nat} {xa ma : Nat → Nat} {oa j : Nat} {x4 : Int32} (Cx : lwCx p s m cd b L xs D cT A aS aX aY) (hin : vp_in (x4 + 1) L ∧ vp_in (x4 + 2) L ∧ vp_in (x4 + 3) L ∧ vp_in (x4 + 4) L ∧ vp_in (x4 + 5) L) (hj : j ≤ 511) (hl : lv_has ls 7 [(0, .ref b), (1, .ref (xa 0)), (2, .ref (ma 0)), (3, .ref oa), (4, .int x4)]) (hI : lwI D cT A xa ma oa H cells slots j) (hS : va_S A s.heap H locs) (K : ∀ (H : Heap) (locs : List Loc) (nC nS : Nat), lwI D cT A xa ma oa H nC nS (j + 1) → va_S A s.heap H locs → W p l e room_1 s m #[Value.ref b] below meth cd H locs nC nS Q (F0 m 1291 ls [])) : W p l e room_1 s m #[Value.ref b] below meth cd H locs cells slots Q (F0 m 1106 ls []) := by
  obtain ⟨zs, zp, o, ln, c, tr, g, sh, sw, mi, mw, mp, ml, mb, mu, ms, mk, mo, mt, ov, S, Pl, K0, K1, K2, K3, hP, hD, hB, iR, iP, i0, i1, i2, i3, iC, iN⟩ := hI
  obtain ⟨hi1, hi2, hi3, hi4, hi5⟩ := hin
  have lR := sr_len iR
  have lP := pl_len iP
  have l0 := kp_len i0
  have l1 := kp_len i1
  have l2 := kp_len i2
  have l3 := kp_len i3
  have lS : ∀ (sa : Nat → Nat) (sv : qS) (bd : qC), (wS sa cT sv bd).length = 18 := fun _ _ _ => rfl
  have lPl : ∀ (pa : Nat → Nat) (pv : qP), (wP pa cT pv).length = 2 := fun _ _ => rfl
  have lK : ∀ (ka : Nat → Nat) (kc : qC), (wK ka cT kc).length = 9 := fun _ _ => rfl
  rcases iR with ⟨rfl, rfl⟩ | ⟨sa, sv, bd, rfl, rfl, hs⟩
  · rcases pk_trim_0 (tr := tr) (sh := sh) (mp := mp) (ms := ms) (mk := mk) (mt := mt) hB  with ⟨r0, k_status', k_status'', k_thrown'', k_barges'', k_undoMany'', k_redoMany'', k_stands'', k_edges'', k_lineSort'', k_lineMany'', k_numbers'', k_wall'', k_kind'', k_at'', k_size'', k_way'', k_gate'', k_places'', k_heads'', k_chain'', k_depth'', k_parent'', k_byBarge'', k_byWay'', k_bySteps'', k_far'', k_firstEdge'', k_edge'', k_edgeBarge'', k_who'', k_here'', e1, e2, hB⟩ | ⟨r0, k_status', k_lines_sort', k_lines_size', k_lines_numbers', k_chart_barges', k_chart_walls', k_chart_taken', k_chart_kind', k_chart_place', k_chart_length', k_chart_gate', k_chart_across', k_chart_wide', k_chart_high', k_chart_shape', k_trial_width', k_trial_height', k_trial_barges', k_trial_walls', k_trial_taken', k_trial_kind', k_trial_place', k_trial_length', k_trial_gate', k_trial_across', k_trial_wide', k_trial_high', k_trial_shape', k_log_done', k_log_undone', k_search_found', k_search_queued', k_search_spent', k_search_board_width', k_search_board_height', k_search_board_barges', k_search_board_walls', k_search_board_taken', k_search_board_kind', k_search_board_place', k_search_board_length', k_search_board_gate', k_search_board_across', k_search_board_wide', k_search_board_high', k_search_board_shape', k_search_low', k_search_high', k_search_slots', k_search_slotFor', k_search_moves', k_search_distance', k_search_queue', k_status'', k_thrown'', k_barges'', k_undoMany'', k_redoMany'', k_stands'', k_edges'', k_lineSort'', k_lineMany'', k_numbers'', k_wall'', k_kind'', k_at'', k_size'', k_way'', k_gate'', k_places'', k_heads'', k_chain'', k_depth'', k_parent'', k_byBarge'', k_byWay'', k_bySteps'', k_far'', k_firstEdge'', k_edge'', k_edgeBarge'', k_who'', k_here'', e1, e2, hB, hs⟩
    · refine lc_trim_search00 Cx  e1 e2 hP hD hS hl (by omega) (by omega) (fun H locs hP hD hS => ?_)
      exact K H locs _ _ ⟨.null, zp, _, _, _, _, _, _, _, _, _, _, _, _, _, _, _, _, _, ov, [], Pl, K0, K1, K2, K3, hP, hD, hB, Or.inl ⟨rfl, rfl⟩, iP, i0, i1, i2, i3, (by simp only [lS, lPl, lK, List.length_nil] at *; omega), (by simp only [lS, lPl, lK, List.length_nil] at *; omega)⟩ hS
    · refine lc_trim_search01 Cx  e1 e2 hP hD hS hl (by omega) (by omega) (fun sa H locs hP hD hS => ?_)
      obtain ⟨hP, hD⟩ := jl_perm lw_pS.symm hP hD
      exact K H locs _ _ ⟨.ref (sa 0), zp, _, _, _, _, _, _, _, _, _, _, _, _, _, _, _, _, _, ov, _, Pl, K0, K1, K2, K3, hP, hD, hB, Or.inr ⟨sa, _, _, rfl, rfl, hs⟩, iP, i0, i1, i2, i3, (by simp only [lS, lPl, lK, List.length_nil] at *; omega), (by simp only [lS, lPl, lK, List.length_nil] at *; omega)⟩ hS
  · obtain ⟨r0, k_status', k_lines_sort', k_lines_size', k_lines_numbers', k_chart_barges', k_chart_walls', k_chart_taken', k_chart_kind', k_chart_place', k_chart_length', k_chart_gate', k_chart_across', k_chart_wide', k_chart_high', k_chart_shape', k_trial_width', k_trial_height', k_trial_barges', k_trial_walls', k_trial_taken', k_trial_kind', k_trial_place', k_trial_length', k_trial_gate', k_trial_across', k_trial_wide', k_trial_high', k_trial_shape', k_log_done', k_log_undone', k_search_found', k_search_queued', k_search_spent', k_search_board_width', k_search_board_height', k_search_board_barges', k_search_board_walls', k_search_board_taken', k_search_board_kind', k_search_board_place', k_search_board_length', k_search_board_gate', k_search_board_across', k_search_board_wide', k_search_board_high', k_search_board_shape', k_search_low', k_search_high', k_search_slots', k_search_slotFor', k_search_moves', k_search_distance', k_search_queue', k_status'', k_thrown'', k_barges'', k_undoMany'', k_redoMany'', k_stands'', k_edges'', k_lineSort'', k_lineMany'', k_numbers'', k_wall'', k_kind'', k_at'', k_size'', k_way'', k_gate'', k_places'', k_heads'', k_chain'', k_depth'', k_parent'', k_byBarge'', k_byWay'', k_bySteps'', k_far'', k_firstEdge'', k_edge'', k_edgeBarge'', k_who'', k_here'', e1, e2, hB, hs⟩ := pk_trim_1 (tr := tr) (sh := sh) (mp := mp) (ms := ms) (mk := mk) (mt := mt) (bd := bd) hB hs 
    obtain ⟨hP, hD⟩ := jl_perm lw_pS hP hD
    refine lc_trim_search11 Cx  e1 e2 hP hD hS hl (by omega) (by omega) (fun H locs hP hD hS => ?_)
    obtain ⟨hP, hD⟩ := jl_perm lw_pS.symm hP hD
    exact K H locs _ _ ⟨.ref (sa 0), zp, _, _, _, _, _, _, _, _, _, _, _, _, _, _, _, _, _, ov, _, Pl, K0, K1, K2, K3, hP, hD, hB, Or.inr ⟨sa, _, _, rfl, rfl, hs⟩, iP, i0, i1, i2, i3, (by simp only [lS, lPl, lK, List.length_nil] at *; omega), (by simp only [lS, lPl, lK, List.length_nil] at *; omega)⟩ hS
