set_option maxHeartbeats 4000000 in
set_option maxRecDepth 100000 in
theorem st_barge {p : Program} {l : Launch} {e : Env} {s : State} {m : MethodId} {below : List Frame} {meth : Method} {cd : Code} {Q : State → Prop} {H : Heap} {locs : List Loc} {cells slots : Nat} {ls : Array Slot} {b L : Nat} {xs : Nat → Int32} {D : va_G} {cT : Nat → ClassId} {A : Nat → Prop} {aS aX aY : Nat} {xa ma : Nat → Nat} {oa j : Nat} {x4 : Int32} (Cx : lwCx p s m cd b L xs D cT A aS aX aY) (hin : vp_in (x4 + 1) L ∧ vp_in (x4 + 2) L ∧ vp_in (x4 + 3) L ∧ vp_in (x4 + 4) L ∧ vp_in (x4 + 5) L) (hj : j ≤ 511) (hl : lv_has ls 7 [(0, .ref b), (1, .ref (xa 0)), (2, .ref (ma 0)), (3, .ref oa), (4, .int x4)]) (hI : lwI D cT A xa ma oa H cells slots j) (hS : va_S A s.heap H locs) (K : ∀ (H : Heap) (locs : List Loc) (nC nS : Nat), lwI D cT A xa ma oa H nC nS (j + 1) → va_S A s.heap H locs → W p l e room_1 s m #[Value.ref b] below meth cd H locs nC nS Q (F0 m 1291 ls [])) : W p l e room_1 s m #[Value.ref b] below meth cd H locs cells slots Q (F0 m 479 ls []) := by
  obtain ⟨zs, zp, o, ln, c, tr, g, sh, sw, mi, mw, mp, ml, mb, mu, ms, mk, mo, mt, ov, S, Pl, K0, K1, K2, K3, hP, hD, hB, iR, iP, i0, i1, i2, i3, iC, iN⟩ := hI
  obtain ⟨hi1, hi2, hi3, hi4, hi5⟩ := hin
  have lR := sr_len iR
  have lP := pl_len iP
  have l0 := kp_len i0
  have l1 := kp_len i1
  have l2 := kp_len i2
  have l3 := kp_len i3
  obtain ⟨r0, k_statusz, k_chart_bargesz, k_chart_takenz, k_chart_kindz, k_chart_placez, k_chart_lengthz, k_chart_gatez, k_chart_acrossz, k_chart_widez, k_chart_highz, k_chart_shapez, k_log_donez, k_log_undonez, k_statuszz, k_thrownzz, k_bargeszz, k_undoManyzz, k_redoManyzz, k_kindzz, k_atzz, k_sizezz, k_wayzz, k_gatezz, k_whozz, k_herezz, e1, e2, hB⟩ := pk_barge (tr := tr) (sh := sh) (mp := mp) (ms := ms) (mk := mk) (mt := mt) hB (xs (x4 + 1).toNatClampNeg) (xs (x4 + 2).toNatClampNeg) (xs (x4 + 3).toNatClampNeg) (xs (x4 + 4).toNatClampNeg) (decide (xs (x4 + 5).toNatClampNeg ≠ 0))
  refine lc_barge Cx hi1 hi2 hi3 hi4 hi5 e1 e2 hP hD hS hl (by omega) (by omega) (fun H locs hP hD hS => ?_)
  exact K H locs _ _ ⟨zs, zp, _, _, _, _, _, _, _, _, _, _, _, _, _, _, _, _, _, ov, S, Pl, K0, K1, K2, K3, hP, hD, hB, iR, iP, i0, i1, i2, i3, (by omega), (by omega)⟩ hS
set_option maxHeartbeats 4000000 in
set_option maxRecDepth 100000 in
theorem st_make {p : Program} {l : Launch} {e : Env} {s : State} {m : MethodId} {below : List Frame} {meth : Method} {cd : Code} {Q : State → Prop} {H : Heap} {locs : List Loc} {cells slots : Nat} {ls : Array Slot} {b L : Nat} {xs : Nat → Int32} {D : va_G} {cT : Nat → ClassId} {A : Nat → Prop} {aS aX aY : Nat} {xa ma : Nat → Nat} {oa j : Nat} {x4 : Int32} (Cx : lwCx p s m cd b L xs D cT A aS aX aY) (hin : vp_in (x4 + 1) L ∧ vp_in (x4 + 2) L ∧ vp_in (x4 + 3) L ∧ vp_in (x4 + 4) L ∧ vp_in (x4 + 5) L) (hj : j ≤ 511) (hl : lv_has ls 7 [(0, .ref b), (1, .ref (xa 0)), (2, .ref (ma 0)), (3, .ref oa), (4, .int x4)]) (hI : lwI D cT A xa ma oa H cells slots j) (hS : va_S A s.heap H locs) (K : ∀ (H : Heap) (locs : List Loc) (nC nS : Nat), lwI D cT A xa ma oa H nC nS (j + 1) → va_S A s.heap H locs → W p l e room_1 s m #[Value.ref b] below meth cd H locs nC nS Q (F0 m 1291 ls [])) : W p l e room_1 s m #[Value.ref b] below meth cd H locs cells slots Q (F0 m 1069 ls []) := by
  obtain ⟨zs, zp, o, ln, c, tr, g, sh, sw, mi, mw, mp, ml, mb, mu, ms, mk, mo, mt, ov, S, Pl, K0, K1, K2, K3, hP, hD, hB, iR, iP, i0, i1, i2, i3, iC, iN⟩ := hI
  obtain ⟨hi1, hi2, hi3, hi4, hi5⟩ := hin
  have lR := sr_len iR
  have lP := pl_len iP
  have l0 := kp_len i0
  have l1 := kp_len i1
  have l2 := kp_len i2
  have l3 := kp_len i3
  obtain ⟨r0, k_statusz, k_chart_bargesz, k_chart_takenz, k_chart_kindz, k_chart_placez, k_chart_lengthz, k_chart_gatez, k_chart_acrossz, k_chart_widez, k_chart_highz, k_chart_shapez, k_log_donez, k_log_undonez, k_statuszz, k_thrownzz, k_bargeszz, k_undoManyzz, k_redoManyzz, k_seedzz, k_kindzz, k_atzz, k_sizezz, k_wayzz, k_gatezz, k_whozz, k_herezz, e1, e2, hB⟩ := pk_make (tr := tr) (sh := sh) (mp := mp) (ms := ms) (mk := mk) (mt := mt) hB (xs (x4 + 1).toNatClampNeg) (xs (x4 + 2).toNatClampNeg)
  refine lc_make Cx hi1 hi2 e1 e2 hP hD hS hl (by omega) (by omega) (fun H locs hP hD hS => ?_)
  exact K H locs _ _ ⟨zs, zp, _, _, _, _, _, _, _, _, _, _, _, _, _, _, _, _, _, ov, S, Pl, K0, K1, K2, K3, hP, hD, hB, iR, iP, i0, i1, i2, i3, (by omega), (by omega)⟩ hS
