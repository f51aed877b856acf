set_option maxHeartbeats 4000000 in
set_option maxRecDepth 100000 in
theorem st_barge {p : Program} {l : Launch} {e : Env} {s : State} {m : MethodId} {below : List Frame} {meth : Method} {cd : Code} {Q : State → Prop} {H : Heap} {locs : List Loc} {cells slots : Nat} {ls : Array Slot} {b L : Nat} {xs : Nat → Int32} {D : va_G} {cT : Nat → ClassId} {A : Nat → Prop} {aS aX aY : Nat} {xa ma : Nat → Nat} {oa j : Nat} {x4 : Int32} (Cx : lwCx p s m cd b L xs D cT A aS aX aY) (hin : vp_in (x4 + 1) L ∧ vp_in (x4 + 2) L ∧ vp_in (x4 + 3) L ∧ vp_in (x4 + 4) L ∧ vp_in (x4 + 5) L) (hj : j ≤ 511) (hl : lv_has ls 7 [(0, .ref b), (1, .ref (xa 0)), (2, .ref (ma 0)), (3, .ref oa), (4, .int x4)]) (hI : lwI D cT A xa ma oa H cells slots j) (hS : va_S A s.heap H locs) (K : ∀ (H : Heap) (locs : List Loc) (nC nS : Nat), lwI D cT A xa ma oa H nC nS (j + 1) → va_S A s.heap H locs → W p l e room_1 s m #[Value.ref b] below meth cd H locs nC nS Q (F0 m 1291 ls [])) : W p l e room_1 s m #[Value.ref b] below meth cd H locs cells slots Q (F0 m 479 ls []) := by
  obtain ⟨zs, zp, o, ln, c, tr, g, sh, sw, mi, mw, mp, ml, mb, mu, ms, mk, mo, mt, ov, S, Pl, K0, K1, K2, K3, hP, hD, hB, iR, iP, i0, i1, i2, i3, iC, iN⟩ := hI
  obtain ⟨hi1, hi2, hi3, hi4, hi5⟩ := hin
  have lR := sr_len iR
  have lP := pl_len iP
  have l0 := kp_len i0
  have l1 := kp_len i1
  have l2 := kp_len i2
  have l3 := kp_len i3
  obtain ⟨r0, k_status', k_chart_barges', k_chart_taken', k_chart_kind', k_chart_place', k_chart_length', k_chart_gate', k_chart_across', k_chart_wide', k_chart_high', k_chart_shape', k_log_done', k_log_undone', k_status'', k_thrown'', k_barges'', k_undoMany'', k_redoMany'', k_kind'', k_at'', k_size'', k_way'', k_gate'', k_who'', k_here'', e1, e2, hB⟩ := pk_barge (tr := tr) (sh := sh) (mp := mp) (ms := ms) (mk := mk) (mt := mt) hB (xs (x4 + 1).toNatClampNeg) (xs (x4 + 2).toNatClampNeg) (xs (x4 + 3).toNatClampNeg) (xs (x4 + 4).toNatClampNeg) (decide (xs (x4 + 5).toNatClampNeg ≠ 0))
  refine lc_barge Cx hi1 hi2 hi3 hi4 hi5 e1 e2 hP hD hS hl (by omega) (by omega) (fun H locs hP hD hS => ?_)
  exact K H locs _ _ ⟨zs, zp, _, _, _, _, _, _, _, _, _, _, _, _, _, _, _, _, _, ov, S, Pl, K0, K1, K2, K3, hP, hD, hB, iR, iP, i0, i1, i2, i3, (by omega), (by omega)⟩ hS
set_option maxHeartbeats 4000000 in
set_option maxRecDepth 100000 in
theorem st_make {p : Program} {l : Launch} {e : Env} {s : State} {m : MethodId} {below : List Frame} {meth : Method} {cd : Code} {Q : State → Prop} {H : Heap} {locs : List Loc} {cells slots : Nat} {ls : Array Slot} {b L : Nat} {xs : Nat → Int32} {D : va_G} {cT : Nat → ClassId} {A : Nat → Prop} {aS aX aY : Nat} {xa ma : Nat → Nat} {oa j : Nat} {x4 : Int32} (Cx : lwCx p s m cd b L xs D cT A aS aX aY) (hin : vp_in (x4 + 1) L ∧ vp_in (x4 + 2) L ∧ vp_in (x4 + 3) L ∧ vp_in (x4 + 4) L ∧ vp_in (x4 + 5) L) (hj : j ≤ 511) (hl : lv_has ls 7 [(0, .ref b), (1, .ref (xa 0)), (2, .ref (ma 0)), (3, .ref oa), (4, .int x4)]) (hI : lwI D cT A xa ma oa H cells slots j) (hS : va_S A s.heap H locs) (K : ∀ (H : Heap) (locs : List Loc) (nC nS : Nat), lwI D cT A xa ma oa H nC nS (j + 1) → va_S A s.heap H locs → W p l e room_1 s m #[Value.ref b] below meth cd H locs nC nS Q (F0 m 1291 ls [])) : W p l e room_1 s m #[Value.ref b] below meth cd H locs cells slots Q (F0 m 1069 ls []) := by
  obtain ⟨zs, zp, o, ln, c, tr, g, sh, sw, mi, mw, mp, ml, mb, mu, ms, mk, mo, mt, ov, S, Pl, K0, K1, K2, K3, hP, hD, hB, iR, iP, i0, i1, i2, i3, iC, iN⟩ := hI
  obtain ⟨hi1, hi2, hi3, hi4, hi5⟩ := hin
  have lR := sr_len iR
  have lP := pl_len iP
  have l0 := kp_len i0
  have l1 := kp_len i1
  have l2 := kp_len i2
  have l3 := kp_len i3
  obtain ⟨r0, k_status', k_chart_barges', k_chart_taken', k_chart_kind', k_chart_place', k_chart_length', k_chart_gate', k_chart_across', k_chart_wide', k_chart_high', k_chart_shape', k_log_done', k_log_undone', k_status'', k_thrown'', k_barges'', k_undoMany'', k_redoMany'', k_seed'', k_kind'', k_at'', k_size'', k_way'', k_gate'', k_who'', k_here'', e1, e2, hB⟩ := pk_make (tr := tr) (sh := sh) (mp := mp) (ms := ms) (mk := mk) (mt := mt) hB (xs (x4 + 1).toNatClampNeg) (xs (x4 + 2).toNatClampNeg)
  refine lc_make Cx hi1 hi2 e1 e2 hP hD hS hl (by omega) (by omega) (fun H locs hP hD hS => ?_)
  exact K H locs _ _ ⟨zs, zp, _, _, _, _, _, _, _, _, _, _, _, _, _, _, _, _, _, ov, S, Pl, K0, K1, K2, K3, hP, hD, hB, iR, iP, i0, i1, i2, i3, (by omega), (by omega)⟩ hS
