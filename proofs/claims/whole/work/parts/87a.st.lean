set_option maxHeartbeats 4000000 in
set_option maxRecDepth 100000 in
theorem st_status {p : Program} {l : Launch} {e : Env} {s : State} {m : MethodId} {below : List Frame} {meth : Method} {cd : Code} {Q : State → Prop} {H : Heap} {locs : List Loc} {cells slots : Nat} {ls : Array Slot} {b L : Nat} {xs : Nat → Int32} {D : va_G} {cT : Nat → ClassId} {A : Nat → Prop} {aS aX aY : Nat} {xa ma : Nat → Nat} {oa j : Nat} {x4 : Int32} (Cx : lwCx p s m cd b L xs D cT A aS aX aY) (hin : vp_in (x4 + 1) L ∧ vp_in (x4 + 2) L ∧ vp_in (x4 + 3) L ∧ vp_in (x4 + 4) L ∧ vp_in (x4 + 5) L) (hj : j ≤ 511) (hl : lv_has ls 7 [(0, .ref b), (1, .ref (xa 0)), (2, .ref (ma 0)), (3, .ref oa), (4, .int x4)]) (hI : lwI D cT A xa ma oa H cells slots j) (hS : va_S A s.heap H locs) (K : ∀ (H : Heap) (locs : List Loc) (nC nS : Nat), lwI D cT A xa ma oa H nC nS (j + 1) → va_S A s.heap H locs → W p l e room_1 s m #[Value.ref b] below meth cd H locs nC nS Q (F0 m 1291 ls [])) : W p l e room_1 s m #[Value.ref b] below meth cd H locs cells slots Q (F0 m 196 ls []) := by
  obtain ⟨zs, zp, o, ln, c, tr, g, sh, sw, mi, mw, mp, ml, mb, mu, ms, mk, mo, mt, ov, S, Pl, K0, K1, K2, K3, hP, hD, hB, iR, iP, i0, i1, i2, i3, iC, iN⟩ := hI
  obtain ⟨hi1, hi2, hi3, hi4, hi5⟩ := hin
  have lR := sr_len iR
  have lP := pl_len iP
  have l0 := kp_len i0
  have l1 := kp_len i1
  have l2 := kp_len i2
  have l3 := kp_len i3
  obtain ⟨r0, k_thrownzz, e1, e2, hB⟩ := pk_status (tr := tr) (sh := sh) (mp := mp) (ms := ms) (mk := mk) (mt := mt) hB 
  refine lc_status Cx  e1 e2 hP hD hS hl (by omega) (by omega) (fun H locs hP hD hS => ?_)
  exact K H locs _ _ ⟨zs, zp, _, _, _, _, _, _, _, _, _, _, _, _, _, _, _, _, _, ov, S, Pl, K0, K1, K2, K3, hP, hD, hB, iR, iP, i0, i1, i2, i3, (by omega), (by omega)⟩ hS
set_option maxHeartbeats 4000000 in
set_option maxRecDepth 100000 in
theorem st_why {p : Program} {l : Launch} {e : Env} {s : State} {m : MethodId} {below : List Frame} {meth : Method} {cd : Code} {Q : State → Prop} {H : Heap} {locs : List Loc} {cells slots : Nat} {ls : Array Slot} {b L : Nat} {xs : Nat → Int32} {D : va_G} {cT : Nat → ClassId} {A : Nat → Prop} {aS aX aY : Nat} {xa ma : Nat → Nat} {oa j : Nat} {x4 : Int32} (Cx : lwCx p s m cd b L xs D cT A aS aX aY) (hin : vp_in (x4 + 1) L ∧ vp_in (x4 + 2) L ∧ vp_in (x4 + 3) L ∧ vp_in (x4 + 4) L ∧ vp_in (x4 + 5) L) (hj : j ≤ 511) (hl : lv_has ls 7 [(0, .ref b), (1, .ref (xa 0)), (2, .ref (ma 0)), (3, .ref oa), (4, .int x4)]) (hI : lwI D cT A xa ma oa H cells slots j) (hS : va_S A s.heap H locs) (K : ∀ (H : Heap) (locs : List Loc) (nC nS : Nat), lwI D cT A xa ma oa H nC nS (j + 1) → va_S A s.heap H locs → W p l e room_1 s m #[Value.ref b] below meth cd H locs nC nS Q (F0 m 1291 ls [])) : W p l e room_1 s m #[Value.ref b] below meth cd H locs cells slots Q (F0 m 827 ls []) := by
  obtain ⟨zs, zp, o, ln, c, tr, g, sh, sw, mi, mw, mp, ml, mb, mu, ms, mk, mo, mt, ov, S, Pl, K0, K1, K2, K3, hP, hD, hB, iR, iP, i0, i1, i2, i3, iC, iN⟩ := hI
  obtain ⟨hi1, hi2, hi3, hi4, hi5⟩ := hin
  have lR := sr_len iR
  have lP := pl_len iP
  have l0 := kp_len i0
  have l1 := kp_len i1
  have l2 := kp_len i2
  have l3 := kp_len i3
  obtain ⟨r0, k_thrownzz, e1, e2, hB⟩ := pk_why (tr := tr) (sh := sh) (mp := mp) (ms := ms) (mk := mk) (mt := mt) hB (xs (x4 + 1).toNatClampNeg)
  refine lc_why Cx hi1 e1 e2 hP hD hS hl (by omega) (by omega) (fun H locs hP hD hS => ?_)
  exact K H locs _ _ ⟨zs, zp, _, _, _, _, _, _, _, _, _, _, _, _, _, _, _, _, _, ov, S, Pl, K0, K1, K2, K3, hP, hD, hB, iR, iP, i0, i1, i2, i3, (by omega), (by omega)⟩ hS
set_option maxHeartbeats 4000000 in
set_option maxRecDepth 100000 in
theorem st_get {p : Program} {l : Launch} {e : Env} {s : State} {m : MethodId} {below : List Frame} {meth : Method} {cd : Code} {Q : State → Prop} {H : Heap} {locs : List Loc} {cells slots : Nat} {ls : Array Slot} {b L : Nat} {xs : Nat → Int32} {D : va_G} {cT : Nat → ClassId} {A : Nat → Prop} {aS aX aY : Nat} {xa ma : Nat → Nat} {oa j : Nat} {x4 : Int32} (Cx : lwCx p s m cd b L xs D cT A aS aX aY) (hin : vp_in (x4 + 1) L ∧ vp_in (x4 + 2) L ∧ vp_in (x4 + 3) L ∧ vp_in (x4 + 4) L ∧ vp_in (x4 + 5) L) (hj : j ≤ 511) (hl : lv_has ls 7 [(0, .ref b), (1, .ref (xa 0)), (2, .ref (ma 0)), (3, .ref oa), (4, .int x4)]) (hI : lwI D cT A xa ma oa H cells slots j) (hS : va_S A s.heap H locs) (K : ∀ (H : Heap) (locs : List Loc) (nC nS : Nat), lwI D cT A xa ma oa H nC nS (j + 1) → va_S A s.heap H locs → W p l e room_1 s m #[Value.ref b] below meth cd H locs nC nS Q (F0 m 1291 ls [])) : W p l e room_1 s m #[Value.ref b] below meth cd H locs cells slots Q (F0 m 344 ls []) := by
  obtain ⟨zs, zp, o, ln, c, tr, g, sh, sw, mi, mw, mp, ml, mb, mu, ms, mk, mo, mt, ov, S, Pl, K0, K1, K2, K3, hP, hD, hB, iR, iP, i0, i1, i2, i3, iC, iN⟩ := hI
  obtain ⟨hi1, hi2, hi3, hi4, hi5⟩ := hin
  have lR := sr_len iR
  have lP := pl_len iP
  have l0 := kp_len i0
  have l1 := kp_len i1
  have l2 := kp_len i2
  have l3 := kp_len i3
  obtain ⟨r0, k_statusz, k_statuszz, k_thrownzz, e1, e2, hB⟩ := pk_get (tr := tr) (sh := sh) (mp := mp) (ms := ms) (mk := mk) (mt := mt) hB (xs (x4 + 1).toNatClampNeg) (xs (x4 + 2).toNatClampNeg)
  refine lc_get Cx hi1 hi2 e1 e2 hP hD hS hl (by omega) (by omega) (fun H locs hP hD hS => ?_)
  exact K H locs _ _ ⟨zs, zp, _, _, _, _, _, _, _, _, _, _, _, _, _, _, _, _, _, ov, S, Pl, K0, K1, K2, K3, hP, hD, hB, iR, iP, i0, i1, i2, i3, (by omega), (by omega)⟩ hS
set_option maxHeartbeats 4000000 in
set_option maxRecDepth 100000 in
theorem st_basin {p : Program} {l : Launch} {e : Env} {s : State} {m : MethodId} {below : List Frame} {meth : Method} {cd : Code} {Q : State → Prop} {H : Heap} {locs : List Loc} {cells slots : Nat} {ls : Array Slot} {b L : Nat} {xs : Nat → Int32} {D : va_G} {cT : Nat → ClassId} {A : Nat → Prop} {aS aX aY : Nat} {xa ma : Nat → Nat} {oa j : Nat} {x4 : Int32} (Cx : lwCx p s m cd b L xs D cT A aS aX aY) (hin : vp_in (x4 + 1) L ∧ vp_in (x4 + 2) L ∧ vp_in (x4 + 3) L ∧ vp_in (x4 + 4) L ∧ vp_in (x4 + 5) L) (hj : j ≤ 511) (hl : lv_has ls 7 [(0, .ref b), (1, .ref (xa 0)), (2, .ref (ma 0)), (3, .ref oa), (4, .int x4)]) (hI : lwI D cT A xa ma oa H cells slots j) (hS : va_S A s.heap H locs) (K : ∀ (H : Heap) (locs : List Loc) (nC nS : Nat), lwI D cT A xa ma oa H nC nS (j + 1) → va_S A s.heap H locs → W p l e room_1 s m #[Value.ref b] below meth cd H locs nC nS Q (F0 m 1291 ls [])) : W p l e room_1 s m #[Value.ref b] below meth cd H locs cells slots Q (F0 m 209 ls []) := by
  obtain ⟨zs, zp, o, ln, c, tr, g, sh, sw, mi, mw, mp, ml, mb, mu, ms, mk, mo, mt, ov, S, Pl, K0, K1, K2, K3, hP, hD, hB, iR, iP, i0, i1, i2, i3, iC, iN⟩ := hI
  obtain ⟨hi1, hi2, hi3, hi4, hi5⟩ := hin
  have lR := sr_len iR
  have lP := pl_len iP
  have l0 := kp_len i0
  have l1 := kp_len i1
  have l2 := kp_len i2
  have l3 := kp_len i3
  obtain ⟨r0, k_statusz, k_lines_sortz, k_chart_widthz, k_chart_heightz, k_chart_bargesz, k_chart_wallsz, k_chart_takenz, k_log_donez, k_log_undonez, k_statuszz, k_thrownzz, k_haszz, k_widthzz, k_heightzz, k_bargeszz, k_undoManyzz, k_redoManyzz, k_lineManyzz, k_wallzz, e1, e2, hB⟩ := pk_basin (tr := tr) (sh := sh) (mp := mp) (ms := ms) (mk := mk) (mt := mt) hB (xs (x4 + 1).toNatClampNeg) (xs (x4 + 2).toNatClampNeg)
  refine lc_basin Cx hi1 hi2 e1 e2 hP hD hS hl (by omega) (by omega) (fun H locs hP hD hS => ?_)
  exact K H locs _ _ ⟨zs, zp, _, _, _, _, _, _, _, _, _, _, _, _, _, _, _, _, _, ov, S, Pl, K0, K1, K2, K3, hP, hD, hB, iR, iP, i0, i1, i2, i3, (by omega), (by omega)⟩ hS
set_option maxHeartbeats 4000000 in
set_option maxRecDepth 100000 in
theorem st_room {p : Program} {l : Launch} {e : Env} {s : State} {m : MethodId} {below : List Frame} {meth : Method} {cd : Code} {Q : State → Prop} {H : Heap} {locs : List Loc} {cells slots : Nat} {ls : Array Slot} {b L : Nat} {xs : Nat → Int32} {D : va_G} {cT : Nat → ClassId} {A : Nat → Prop} {aS aX aY : Nat} {xa ma : Nat → Nat} {oa j : Nat} {x4 : Int32} (Cx : lwCx p s m cd b L xs D cT A aS aX aY) (hin : vp_in (x4 + 1) L ∧ vp_in (x4 + 2) L ∧ vp_in (x4 + 3) L ∧ vp_in (x4 + 4) L ∧ vp_in (x4 + 5) L) (hj : j ≤ 511) (hl : lv_has ls 7 [(0, .ref b), (1, .ref (xa 0)), (2, .ref (ma 0)), (3, .ref oa), (4, .int x4)]) (hI : lwI D cT A xa ma oa H cells slots j) (hS : va_S A s.heap H locs) (K : ∀ (H : Heap) (locs : List Loc) (nC nS : Nat), lwI D cT A xa ma oa H nC nS (j + 1) → va_S A s.heap H locs → W p l e room_1 s m #[Value.ref b] below meth cd H locs nC nS Q (F0 m 1291 ls [])) : W p l e room_1 s m #[Value.ref b] below meth cd H locs cells slots Q (F0 m 741 ls []) := by
  obtain ⟨zs, zp, o, ln, c, tr, g, sh, sw, mi, mw, mp, ml, mb, mu, ms, mk, mo, mt, ov, S, Pl, K0, K1, K2, K3, hP, hD, hB, iR, iP, i0, i1, i2, i3, iC, iN⟩ := hI
  obtain ⟨hi1, hi2, hi3, hi4, hi5⟩ := hin
  have lR := sr_len iR
  have lP := pl_len iP
  have l0 := kp_len i0
  have l1 := kp_len i1
  have l2 := kp_len i2
  have l3 := kp_len i3
  obtain ⟨r0, k_statusz, k_statuszz, k_thrownzz, k_whozz, k_herezz, e1, e2, hB⟩ := pk_room (tr := tr) (sh := sh) (mp := mp) (ms := ms) (mk := mk) (mt := mt) hB (xs (x4 + 1).toNatClampNeg) (xs (x4 + 2).toNatClampNeg)
  refine lc_room Cx hi1 hi2 e1 e2 hP hD hS hl (by omega) (by omega) (fun H locs hP hD hS => ?_)
  exact K H locs _ _ ⟨zs, zp, _, _, _, _, _, _, _, _, _, _, _, _, _, _, _, _, _, ov, S, Pl, K0, K1, K2, K3, hP, hD, hB, iR, iP, i0, i1, i2, i3, (by omega), (by omega)⟩ hS
set_option maxHeartbeats 4000000 in
set_option maxRecDepth 100000 in
theorem st_field {p : Program} {l : Launch} {e : Env} {s : State} {m : MethodId} {below : List Frame} {meth : Method} {cd : Code} {Q : State → Prop} {H : Heap} {locs : List Loc} {cells slots : Nat} {ls : Array Slot} {b L : Nat} {xs : Nat → Int32} {D : va_G} {cT : Nat → ClassId} {A : Nat → Prop} {aS aX aY : Nat} {xa ma : Nat → Nat} {oa j : Nat} {x4 : Int32} (Cx : lwCx p s m cd b L xs D cT A aS aX aY) (hin : vp_in (x4 + 1) L ∧ vp_in (x4 + 2) L ∧ vp_in (x4 + 3) L ∧ vp_in (x4 + 4) L ∧ vp_in (x4 + 5) L) (hj : j ≤ 511) (hl : lv_has ls 7 [(0, .ref b), (1, .ref (xa 0)), (2, .ref (ma 0)), (3, .ref oa), (4, .int x4)]) (hI : lwI D cT A xa ma oa H cells slots j) (hS : va_S A s.heap H locs) (K : ∀ (H : Heap) (locs : List Loc) (nC nS : Nat), lwI D cT A xa ma oa H nC nS (j + 1) → va_S A s.heap H locs → W p l e room_1 s m #[Value.ref b] below meth cd H locs nC nS Q (F0 m 1291 ls [])) : W p l e room_1 s m #[Value.ref b] below meth cd H locs cells slots Q (F0 m 679 ls []) := by
  obtain ⟨zs, zp, o, ln, c, tr, g, sh, sw, mi, mw, mp, ml, mb, mu, ms, mk, mo, mt, ov, S, Pl, K0, K1, K2, K3, hP, hD, hB, iR, iP, i0, i1, i2, i3, iC, iN⟩ := hI
  obtain ⟨hi1, hi2, hi3, hi4, hi5⟩ := hin
  have lR := sr_len iR
  have lP := pl_len iP
  have l0 := kp_len i0
  have l1 := kp_len i1
  have l2 := kp_len i2
  have l3 := kp_len i3
  obtain ⟨r0, k_statusz, k_statuszz, k_thrownzz, k_whozz, k_herezz, e1, e2, hB⟩ := pk_field (tr := tr) (sh := sh) (mp := mp) (ms := ms) (mk := mk) (mt := mt) hB (xs (x4 + 1).toNatClampNeg) (xs (x4 + 2).toNatClampNeg)
  refine lc_field Cx hi1 hi2 e1 e2 hP hD hS hl (by omega) (by omega) (fun H locs hP hD hS => ?_)
  exact K H locs _ _ ⟨zs, zp, _, _, _, _, _, _, _, _, _, _, _, _, _, _, _, _, _, ov, S, Pl, K0, K1, K2, K3, hP, hD, hB, iR, iP, i0, i1, i2, i3, (by omega), (by omega)⟩ hS
set_option maxHeartbeats 4000000 in
set_option maxRecDepth 100000 in
theorem st_lies {p : Program} {l : Launch} {e : Env} {s : State} {m : MethodId} {below : List Frame} {meth : Method} {cd : Code} {Q : State → Prop} {H : Heap} {locs : List Loc} {cells slots : Nat} {ls : Array Slot} {b L : Nat} {xs : Nat → Int32} {D : va_G} {cT : Nat → ClassId} {A : Nat → Prop} {aS aX aY : Nat} {xa ma : Nat → Nat} {oa j : Nat} {x4 : Int32} (Cx : lwCx p s m cd b L xs D cT A aS aX aY) (hin : vp_in (x4 + 1) L ∧ vp_in (x4 + 2) L ∧ vp_in (x4 + 3) L ∧ vp_in (x4 + 4) L ∧ vp_in (x4 + 5) L) (hj : j ≤ 511) (hl : lv_has ls 7 [(0, .ref b), (1, .ref (xa 0)), (2, .ref (ma 0)), (3, .ref oa), (4, .int x4)]) (hI : lwI D cT A xa ma oa H cells slots j) (hS : va_S A s.heap H locs) (K : ∀ (H : Heap) (locs : List Loc) (nC nS : Nat), lwI D cT A xa ma oa H nC nS (j + 1) → va_S A s.heap H locs → W p l e room_1 s m #[Value.ref b] below meth cd H locs nC nS Q (F0 m 1291 ls [])) : W p l e room_1 s m #[Value.ref b] below meth cd H locs cells slots Q (F0 m 642 ls []) := by
  obtain ⟨zs, zp, o, ln, c, tr, g, sh, sw, mi, mw, mp, ml, mb, mu, ms, mk, mo, mt, ov, S, Pl, K0, K1, K2, K3, hP, hD, hB, iR, iP, i0, i1, i2, i3, iC, iN⟩ := hI
  obtain ⟨hi1, hi2, hi3, hi4, hi5⟩ := hin
  have lR := sr_len iR
  have lP := pl_len iP
  have l0 := kp_len i0
  have l1 := kp_len i1
  have l2 := kp_len i2
  have l3 := kp_len i3
  obtain ⟨r0, k_statusz, k_statuszz, k_thrownzz, e1, e2, hB⟩ := pk_lies (tr := tr) (sh := sh) (mp := mp) (ms := ms) (mk := mk) (mt := mt) hB (xs (x4 + 1).toNatClampNeg) (xs (x4 + 2).toNatClampNeg)
  refine lc_lies Cx hi1 hi2 e1 e2 hP hD hS hl (by omega) (by omega) (fun H locs hP hD hS => ?_)
  exact K H locs _ _ ⟨zs, zp, _, _, _, _, _, _, _, _, _, _, _, _, _, _, _, _, _, ov, S, Pl, K0, K1, K2, K3, hP, hD, hB, iR, iP, i0, i1, i2, i3, (by omega), (by omega)⟩ hS
set_option maxHeartbeats 4000000 in
set_option maxRecDepth 100000 in
theorem st_count {p : Program} {l : Launch} {e : Env} {s : State} {m : MethodId} {below : List Frame} {meth : Method} {cd : Code} {Q : State → Prop} {H : Heap} {locs : List Loc} {cells slots : Nat} {ls : Array Slot} {b L : Nat} {xs : Nat → Int32} {D : va_G} {cT : Nat → ClassId} {A : Nat → Prop} {aS aX aY : Nat} {xa ma : Nat → Nat} {oa j : Nat} {x4 : Int32} (Cx : lwCx p s m cd b L xs D cT A aS aX aY) (hin : vp_in (x4 + 1) L ∧ vp_in (x4 + 2) L ∧ vp_in (x4 + 3) L ∧ vp_in (x4 + 4) L ∧ vp_in (x4 + 5) L) (hj : j ≤ 511) (hl : lv_has ls 7 [(0, .ref b), (1, .ref (xa 0)), (2, .ref (ma 0)), (3, .ref oa), (4, .int x4)]) (hI : lwI D cT A xa ma oa H cells slots j) (hS : va_S A s.heap H locs) (K : ∀ (H : Heap) (locs : List Loc) (nC nS : Nat), lwI D cT A xa ma oa H nC nS (j + 1) → va_S A s.heap H locs → W p l e room_1 s m #[Value.ref b] below meth cd H locs nC nS Q (F0 m 1291 ls [])) : W p l e room_1 s m #[Value.ref b] below meth cd H locs cells slots Q (F0 m 716 ls []) := by
  obtain ⟨zs, zp, o, ln, c, tr, g, sh, sw, mi, mw, mp, ml, mb, mu, ms, mk, mo, mt, ov, S, Pl, K0, K1, K2, K3, hP, hD, hB, iR, iP, i0, i1, i2, i3, iC, iN⟩ := hI
  obtain ⟨hi1, hi2, hi3, hi4, hi5⟩ := hin
  have lR := sr_len iR
  have lP := pl_len iP
  have l0 := kp_len i0
  have l1 := kp_len i1
  have l2 := kp_len i2
  have l3 := kp_len i3
  obtain ⟨r0, k_statusz, k_statuszz, k_thrownzz, k_whozz, k_herezz, e1, e2, hB⟩ := pk_count (tr := tr) (sh := sh) (mp := mp) (ms := ms) (mk := mk) (mt := mt) hB (xs (x4 + 1).toNatClampNeg)
  refine lc_count Cx hi1 e1 e2 hP hD hS hl (by omega) (by omega) (fun H locs hP hD hS => ?_)
  exact K H locs _ _ ⟨zs, zp, _, _, _, _, _, _, _, _, _, _, _, _, _, _, _, _, _, ov, S, Pl, K0, K1, K2, K3, hP, hD, hB, iR, iP, i0, i1, i2, i3, (by omega), (by omega)⟩ hS
set_option maxHeartbeats 4000000 in
set_option maxRecDepth 100000 in
theorem st_low {p : Program} {l : Launch} {e : Env} {s : State} {m : MethodId} {below : List Frame} {meth : Method} {cd : Code} {Q : State → Prop} {H : Heap} {locs : List Loc} {cells slots : Nat} {ls : Array Slot} {b L : Nat} {xs : Nat → Int32} {D : va_G} {cT : Nat → ClassId} {A : Nat → Prop} {aS aX aY : Nat} {xa ma : Nat → Nat} {oa j : Nat} {x4 : Int32} (Cx : lwCx p s m cd b L xs D cT A aS aX aY) (hin : vp_in (x4 + 1) L ∧ vp_in (x4 + 2) L ∧ vp_in (x4 + 3) L ∧ vp_in (x4 + 4) L ∧ vp_in (x4 + 5) L) (hj : j ≤ 511) (hl : lv_has ls 7 [(0, .ref b), (1, .ref (xa 0)), (2, .ref (ma 0)), (3, .ref oa), (4, .int x4)]) (hI : lwI D cT A xa ma oa H cells slots j) (hS : va_S A s.heap H locs) (K : ∀ (H : Heap) (locs : List Loc) (nC nS : Nat), lwI D cT A xa ma oa H nC nS (j + 1) → va_S A s.heap H locs → W p l e room_1 s m #[Value.ref b] below meth cd H locs nC nS Q (F0 m 1291 ls [])) : W p l e room_1 s m #[Value.ref b] below meth cd H locs cells slots Q (F0 m 1017 ls []) := by
  obtain ⟨zs, zp, o, ln, c, tr, g, sh, sw, mi, mw, mp, ml, mb, mu, ms, mk, mo, mt, ov, S, Pl, K0, K1, K2, K3, hP, hD, hB, iR, iP, i0, i1, i2, i3, iC, iN⟩ := hI
  obtain ⟨hi1, hi2, hi3, hi4, hi5⟩ := hin
  have lR := sr_len iR
  have lP := pl_len iP
  have l0 := kp_len i0
  have l1 := kp_len i1
  have l2 := kp_len i2
  have l3 := kp_len i3
  obtain ⟨r0, k_statusz, k_statuszz, k_thrownzz, k_whozz, k_herezz, k_countszz, e1, e2, hB⟩ := pk_low (tr := tr) (sh := sh) (mp := mp) (ms := ms) (mk := mk) (mt := mt) hB 
  refine lc_low Cx  e1 e2 hP hD hS hl (by omega) (by omega) (fun H locs hP hD hS => ?_)
  exact K H locs _ _ ⟨zs, zp, _, _, _, _, _, _, _, _, _, _, _, _, _, _, _, _, _, ov, S, Pl, K0, K1, K2, K3, hP, hD, hB, iR, iP, i0, i1, i2, i3, (by omega), (by omega)⟩ hS
set_option maxHeartbeats 4000000 in
set_option maxRecDepth 100000 in
theorem st_slide {p : Program} {l : Launch} {e : Env} {s : State} {m : MethodId} {below : List Frame} {meth : Method} {cd : Code} {Q : State → Prop} {H : Heap} {locs : List Loc} {cells slots : Nat} {ls : Array Slot} {b L : Nat} {xs : Nat → Int32} {D : va_G} {cT : Nat → ClassId} {A : Nat → Prop} {aS aX aY : Nat} {xa ma : Nat → Nat} {oa j : Nat} {x4 : Int32} (Cx : lwCx p s m cd b L xs D cT A aS aX aY) (hin : vp_in (x4 + 1) L ∧ vp_in (x4 + 2) L ∧ vp_in (x4 + 3) L ∧ vp_in (x4 + 4) L ∧ vp_in (x4 + 5) L) (hj : j ≤ 511) (hl : lv_has ls 7 [(0, .ref b), (1, .ref (xa 0)), (2, .ref (ma 0)), (3, .ref oa), (4, .int x4)]) (hI : lwI D cT A xa ma oa H cells slots j) (hS : va_S A s.heap H locs) (K : ∀ (H : Heap) (locs : List Loc) (nC nS : Nat), lwI D cT A xa ma oa H nC nS (j + 1) → va_S A s.heap H locs → W p l e room_1 s m #[Value.ref b] below meth cd H locs nC nS Q (F0 m 1291 ls [])) : W p l e room_1 s m #[Value.ref b] below meth cd H locs cells slots Q (F0 m 778 ls []) := by
  obtain ⟨zs, zp, o, ln, c, tr, g, sh, sw, mi, mw, mp, ml, mb, mu, ms, mk, mo, mt, ov, S, Pl, K0, K1, K2, K3, hP, hD, hB, iR, iP, i0, i1, i2, i3, iC, iN⟩ := hI
  obtain ⟨hi1, hi2, hi3, hi4, hi5⟩ := hin
  have lR := sr_len iR
  have lP := pl_len iP
  have l0 := kp_len i0
  have l1 := kp_len i1
  have l2 := kp_len i2
  have l3 := kp_len i3
  obtain ⟨r0, k_statusz, k_whyStepz, k_whyReasonz, k_whyBargez, k_chart_takenz, k_chart_placez, k_log_firstz, k_log_donez, k_log_undonez, k_log_movesz, k_statuszz, k_thrownzz, k_undoManyzz, k_redoManyzz, k_whyStepzz, k_whyWhatzz, k_whyWhozz, k_atzz, k_undoBargezz, k_undoFromzz, k_undoTozz, k_whozz, k_herezz, e1, e2, hB⟩ := pk_slide (tr := tr) (sh := sh) (mp := mp) (ms := ms) (mk := mk) (mt := mt) hB (xs (x4 + 1).toNatClampNeg) (xs (x4 + 2).toNatClampNeg) (xs (x4 + 3).toNatClampNeg)
  refine lc_slide Cx hi1 hi2 hi3 e1 e2 hP hD hS hl (by omega) (by omega) (fun H locs hP hD hS => ?_)
  exact K H locs _ _ ⟨zs, zp, _, _, _, _, _, _, _, _, _, _, _, _, _, _, _, _, _, ov, S, Pl, K0, K1, K2, K3, hP, hD, hB, iR, iP, i0, i1, i2, i3, (by omega), (by omega)⟩ hS
set_option maxHeartbeats 4000000 in
set_option maxRecDepth 100000 in
theorem st_undo {p : Program} {l : Launch} {e : Env} {s : State} {m : MethodId} {below : List Frame} {meth : Method} {cd : Code} {Q : State → Prop} {H : Heap} {locs : List Loc} {cells slots : Nat} {ls : Array Slot} {b L : Nat} {xs : Nat → Int32} {D : va_G} {cT : Nat → ClassId} {A : Nat → Prop} {aS aX aY : Nat} {xa ma : Nat → Nat} {oa j : Nat} {x4 : Int32} (Cx : lwCx p s m cd b L xs D cT A aS aX aY) (hin : vp_in (x4 + 1) L ∧ vp_in (x4 + 2) L ∧ vp_in (x4 + 3) L ∧ vp_in (x4 + 4) L ∧ vp_in (x4 + 5) L) (hj : j ≤ 511) (hl : lv_has ls 7 [(0, .ref b), (1, .ref (xa 0)), (2, .ref (ma 0)), (3, .ref oa), (4, .int x4)]) (hI : lwI D cT A xa ma oa H cells slots j) (hS : va_S A s.heap H locs) (K : ∀ (H : Heap) (locs : List Loc) (nC nS : Nat), lwI D cT A xa ma oa H nC nS (j + 1) → va_S A s.heap H locs → W p l e room_1 s m #[Value.ref b] below meth cd H locs nC nS Q (F0 m 1291 ls [])) : W p l e room_1 s m #[Value.ref b] below meth cd H locs cells slots Q (F0 m 852 ls []) := by
  obtain ⟨zs, zp, o, ln, c, tr, g, sh, sw, mi, mw, mp, ml, mb, mu, ms, mk, mo, mt, ov, S, Pl, K0, K1, K2, K3, hP, hD, hB, iR, iP, i0, i1, i2, i3, iC, iN⟩ := hI
  obtain ⟨hi1, hi2, hi3, hi4, hi5⟩ := hin
  have lR := sr_len iR
  have lP := pl_len iP
  have l0 := kp_len i0
  have l1 := kp_len i1
  have l2 := kp_len i2
  have l3 := kp_len i3
  obtain ⟨r0, k_statusz, k_chart_takenz, k_chart_placez, k_log_donez, k_log_undonez, k_statuszz, k_thrownzz, k_undoManyzz, k_redoManyzz, k_atzz, k_redoBargezz, k_redoFromzz, k_redoTozz, e1, e2, hB⟩ := pk_undo (tr := tr) (sh := sh) (mp := mp) (ms := ms) (mk := mk) (mt := mt) hB 
  refine lc_undo Cx  e1 e2 hP hD hS hl (by omega) (by omega) (fun H locs hP hD hS => ?_)
  exact K H locs _ _ ⟨zs, zp, _, _, _, _, _, _, _, _, _, _, _, _, _, _, _, _, _, ov, S, Pl, K0, K1, K2, K3, hP, hD, hB, iR, iP, i0, i1, i2, i3, (by omega), (by omega)⟩ hS
set_option maxHeartbeats 4000000 in
set_option maxRecDepth 100000 in
theorem st_redo {p : Program} {l : Launch} {e : Env} {s : State} {m : MethodId} {below : List Frame} {meth : Method} {cd : Code} {Q : State → Prop} {H : Heap} {locs : List Loc} {cells slots : Nat} {ls : Array Slot} {b L : Nat} {xs : Nat → Int32} {D : va_G} {cT : Nat → ClassId} {A : Nat → Prop} {aS aX aY : Nat} {xa ma : Nat → Nat} {oa j : Nat} {x4 : Int32} (Cx : lwCx p s m cd b L xs D cT A aS aX aY) (hin : vp_in (x4 + 1) L ∧ vp_in (x4 + 2) L ∧ vp_in (x4 + 3) L ∧ vp_in (x4 + 4) L ∧ vp_in (x4 + 5) L) (hj : j ≤ 511) (hl : lv_has ls 7 [(0, .ref b), (1, .ref (xa 0)), (2, .ref (ma 0)), (3, .ref oa), (4, .int x4)]) (hI : lwI D cT A xa ma oa H cells slots j) (hS : va_S A s.heap H locs) (K : ∀ (H : Heap) (locs : List Loc) (nC nS : Nat), lwI D cT A xa ma oa H nC nS (j + 1) → va_S A s.heap H locs → W p l e room_1 s m #[Value.ref b] below meth cd H locs nC nS Q (F0 m 1291 ls [])) : W p l e room_1 s m #[Value.ref b] below meth cd H locs cells slots Q (F0 m 865 ls []) := by
  obtain ⟨zs, zp, o, ln, c, tr, g, sh, sw, mi, mw, mp, ml, mb, mu, ms, mk, mo, mt, ov, S, Pl, K0, K1, K2, K3, hP, hD, hB, iR, iP, i0, i1, i2, i3, iC, iN⟩ := hI
  obtain ⟨hi1, hi2, hi3, hi4, hi5⟩ := hin
  have lR := sr_len iR
  have lP := pl_len iP
  have l0 := kp_len i0
  have l1 := kp_len i1
  have l2 := kp_len i2
  have l3 := kp_len i3
  obtain ⟨r0, k_statusz, k_chart_takenz, k_chart_placez, k_log_donez, k_log_undonez, k_statuszz, k_thrownzz, k_undoManyzz, k_redoManyzz, k_atzz, k_undoBargezz, k_undoFromzz, k_undoTozz, e1, e2, hB⟩ := pk_redo (tr := tr) (sh := sh) (mp := mp) (ms := ms) (mk := mk) (mt := mt) hB 
  refine lc_redo Cx  e1 e2 hP hD hS hl (by omega) (by omega) (fun H locs hP hD hS => ?_)
  exact K H locs _ _ ⟨zs, zp, _, _, _, _, _, _, _, _, _, _, _, _, _, _, _, _, _, ov, S, Pl, K0, K1, K2, K3, hP, hD, hB, iR, iP, i0, i1, i2, i3, (by omega), (by omega)⟩ hS
set_option maxHeartbeats 4000000 in
set_option maxRecDepth 100000 in
theorem st_lift {p : Program} {l : Launch} {e : Env} {s : State} {m : MethodId} {below : List Frame} {meth : Method} {cd : Code} {Q : State → Prop} {H : Heap} {locs : List Loc} {cells slots : Nat} {ls : Array Slot} {b L : Nat} {xs : Nat → Int32} {D : va_G} {cT : Nat → ClassId} {A : Nat → Prop} {aS aX aY : Nat} {xa ma : Nat → Nat} {oa j : Nat} {x4 : Int32} (Cx : lwCx p s m cd b L xs D cT A aS aX aY) (hin : vp_in (x4 + 1) L ∧ vp_in (x4 + 2) L ∧ vp_in (x4 + 3) L ∧ vp_in (x4 + 4) L ∧ vp_in (x4 + 5) L) (hj : j ≤ 511) (hl : lv_has ls 7 [(0, .ref b), (1, .ref (xa 0)), (2, .ref (ma 0)), (3, .ref oa), (4, .int x4)]) (hI : lwI D cT A xa ma oa H cells slots j) (hS : va_S A s.heap H locs) (K : ∀ (H : Heap) (locs : List Loc) (nC nS : Nat), lwI D cT A xa ma oa H nC nS (j + 1) → va_S A s.heap H locs → W p l e room_1 s m #[Value.ref b] below meth cd H locs nC nS Q (F0 m 1291 ls [])) : W p l e room_1 s m #[Value.ref b] below meth cd H locs cells slots Q (F0 m 617 ls []) := by
  obtain ⟨zs, zp, o, ln, c, tr, g, sh, sw, mi, mw, mp, ml, mb, mu, ms, mk, mo, mt, ov, S, Pl, K0, K1, K2, K3, hP, hD, hB, iR, iP, i0, i1, i2, i3, iC, iN⟩ := hI
  obtain ⟨hi1, hi2, hi3, hi4, hi5⟩ := hin
  have lR := sr_len iR
  have lP := pl_len iP
  have l0 := kp_len i0
  have l1 := kp_len i1
  have l2 := kp_len i2
  have l3 := kp_len i3
  obtain ⟨r0, k_statusz, k_chart_bargesz, k_chart_takenz, k_chart_kindz, k_chart_placez, k_chart_lengthz, k_chart_gatez, k_chart_acrossz, k_chart_widez, k_chart_highz, k_chart_shapez, k_log_donez, k_log_undonez, k_statuszz, k_thrownzz, k_bargeszz, k_undoManyzz, k_redoManyzz, k_kindzz, k_atzz, k_sizezz, k_wayzz, k_gatezz, e1, e2, hB⟩ := pk_lift (tr := tr) (sh := sh) (mp := mp) (ms := ms) (mk := mk) (mt := mt) hB (xs (x4 + 1).toNatClampNeg)
  refine lc_lift Cx hi1 e1 e2 hP hD hS hl (by omega) (by omega) (fun H locs hP hD hS => ?_)
  exact K H locs _ _ ⟨zs, zp, _, _, _, _, _, _, _, _, _, _, _, _, _, _, _, _, _, ov, S, Pl, K0, K1, K2, K3, hP, hD, hB, iR, iP, i0, i1, i2, i3, (by omega), (by omega)⟩ hS
set_option maxHeartbeats 4000000 in
set_option maxRecDepth 100000 in
theorem st_gate {p : Program} {l : Launch} {e : Env} {s : State} {m : MethodId} {below : List Frame} {meth : Method} {cd : Code} {Q : State → Prop} {H : Heap} {locs : List Loc} {cells slots : Nat} {ls : Array Slot} {b L : Nat} {xs : Nat → Int32} {D : va_G} {cT : Nat → ClassId} {A : Nat → Prop} {aS aX aY : Nat} {xa ma : Nat → Nat} {oa j : Nat} {x4 : Int32} (Cx : lwCx p s m cd b L xs D cT A aS aX aY) (hin : vp_in (x4 + 1) L ∧ vp_in (x4 + 2) L ∧ vp_in (x4 + 3) L ∧ vp_in (x4 + 4) L ∧ vp_in (x4 + 5) L) (hj : j ≤ 511) (hl : lv_has ls 7 [(0, .ref b), (1, .ref (xa 0)), (2, .ref (ma 0)), (3, .ref oa), (4, .int x4)]) (hI : lwI D cT A xa ma oa H cells slots j) (hS : va_S A s.heap H locs) (K : ∀ (H : Heap) (locs : List Loc) (nC nS : Nat), lwI D cT A xa ma oa H nC nS (j + 1) → va_S A s.heap H locs → W p l e room_1 s m #[Value.ref b] below meth cd H locs nC nS Q (F0 m 1291 ls [])) : W p l e room_1 s m #[Value.ref b] below meth cd H locs cells slots Q (F0 m 568 ls []) := by
  obtain ⟨zs, zp, o, ln, c, tr, g, sh, sw, mi, mw, mp, ml, mb, mu, ms, mk, mo, mt, ov, S, Pl, K0, K1, K2, K3, hP, hD, hB, iR, iP, i0, i1, i2, i3, iC, iN⟩ := hI
  obtain ⟨hi1, hi2, hi3, hi4, hi5⟩ := hin
  have lR := sr_len iR
  have lP := pl_len iP
  have l0 := kp_len i0
  have l1 := kp_len i1
  have l2 := kp_len i2
  have l3 := kp_len i3
  obtain ⟨r0, k_statusz, k_chart_gatez, k_log_donez, k_log_undonez, k_statuszz, k_thrownzz, k_undoManyzz, k_redoManyzz, k_gatezz, e1, e2, hB⟩ := pk_gate (tr := tr) (sh := sh) (mp := mp) (ms := ms) (mk := mk) (mt := mt) hB (xs (x4 + 1).toNatClampNeg) (xs (x4 + 2).toNatClampNeg) (xs (x4 + 3).toNatClampNeg)
  refine lc_gate Cx hi1 hi2 hi3 e1 e2 hP hD hS hl (by omega) (by omega) (fun H locs hP hD hS => ?_)
  exact K H locs _ _ ⟨zs, zp, _, _, _, _, _, _, _, _, _, _, _, _, _, _, _, _, _, ov, S, Pl, K0, K1, K2, K3, hP, hD, hB, iR, iP, i0, i1, i2, i3, (by omega), (by omega)⟩ hS
set_option maxHeartbeats 4000000 in
set_option maxRecDepth 100000 in
theorem st_tear {p : Program} {l : Launch} {e : Env} {s : State} {m : MethodId} {below : List Frame} {meth : Method} {cd : Code} {Q : State → Prop} {H : Heap} {locs : List Loc} {cells slots : Nat} {ls : Array Slot} {b L : Nat} {xs : Nat → Int32} {D : va_G} {cT : Nat → ClassId} {A : Nat → Prop} {aS aX aY : Nat} {xa ma : Nat → Nat} {oa j : Nat} {x4 : Int32} (Cx : lwCx p s m cd b L xs D cT A aS aX aY) (hin : vp_in (x4 + 1) L ∧ vp_in (x4 + 2) L ∧ vp_in (x4 + 3) L ∧ vp_in (x4 + 4) L ∧ vp_in (x4 + 5) L) (hj : j ≤ 511) (hl : lv_has ls 7 [(0, .ref b), (1, .ref (xa 0)), (2, .ref (ma 0)), (3, .ref oa), (4, .int x4)]) (hI : lwI D cT A xa ma oa H cells slots j) (hS : va_S A s.heap H locs) (K : ∀ (H : Heap) (locs : List Loc) (nC nS : Nat), lwI D cT A xa ma oa H nC nS (j + 1) → va_S A s.heap H locs → W p l e room_1 s m #[Value.ref b] below meth cd H locs nC nS Q (F0 m 1291 ls [])) : W p l e room_1 s m #[Value.ref b] below meth cd H locs cells slots Q (F0 m 454 ls []) := by
  obtain ⟨zs, zp, o, ln, c, tr, g, sh, sw, mi, mw, mp, ml, mb, mu, ms, mk, mo, mt, ov, S, Pl, K0, K1, K2, K3, hP, hD, hB, iR, iP, i0, i1, i2, i3, iC, iN⟩ := hI
  obtain ⟨hi1, hi2, hi3, hi4, hi5⟩ := hin
  have lR := sr_len iR
  have lP := pl_len iP
  have l0 := kp_len i0
  have l1 := kp_len i1
  have l2 := kp_len i2
  have l3 := kp_len i3
  obtain ⟨r0, k_statusz, k_lines_sortz, k_chart_wallsz, k_log_donez, k_log_undonez, k_statuszz, k_thrownzz, k_undoManyzz, k_redoManyzz, k_lineManyzz, k_wallzz, e1, e2, hB⟩ := pk_tear (tr := tr) (sh := sh) (mp := mp) (ms := ms) (mk := mk) (mt := mt) hB (xs (x4 + 1).toNatClampNeg)
  refine lc_tear Cx hi1 e1 e2 hP hD hS hl (by omega) (by omega) (fun H locs hP hD hS => ?_)
  exact K H locs _ _ ⟨zs, zp, _, _, _, _, _, _, _, _, _, _, _, _, _, _, _, _, _, ov, S, Pl, K0, K1, K2, K3, hP, hD, hB, iR, iP, i0, i1, i2, i3, (by omega), (by omega)⟩ hS
set_option maxHeartbeats 4000000 in
set_option maxRecDepth 100000 in
theorem st_set {p : Program} {l : Launch} {e : Env} {s : State} {m : MethodId} {below : List Frame} {meth : Method} {cd : Code} {Q : State → Prop} {H : Heap} {locs : List Loc} {cells slots : Nat} {ls : Array Slot} {b L : Nat} {xs : Nat → Int32} {D : va_G} {cT : Nat → ClassId} {A : Nat → Prop} {aS aX aY : Nat} {xa ma : Nat → Nat} {oa j : Nat} {x4 : Int32} (Cx : lwCx p s m cd b L xs D cT A aS aX aY) (hin : vp_in (x4 + 1) L ∧ vp_in (x4 + 2) L ∧ vp_in (x4 + 3) L ∧ vp_in (x4 + 4) L ∧ vp_in (x4 + 5) L) (hj : j ≤ 511) (hl : lv_has ls 7 [(0, .ref b), (1, .ref (xa 0)), (2, .ref (ma 0)), (3, .ref oa), (4, .int x4)]) (hI : lwI D cT A xa ma oa H cells slots j) (hS : va_S A s.heap H locs) (K : ∀ (H : Heap) (locs : List Loc) (nC nS : Nat), lwI D cT A xa ma oa H nC nS (j + 1) → va_S A s.heap H locs → W p l e room_1 s m #[Value.ref b] below meth cd H locs nC nS Q (F0 m 1291 ls [])) : W p l e room_1 s m #[Value.ref b] below meth cd H locs cells slots Q (F0 m 295 ls []) := by
  obtain ⟨zs, zp, o, ln, c, tr, g, sh, sw, mi, mw, mp, ml, mb, mu, ms, mk, mo, mt, ov, S, Pl, K0, K1, K2, K3, hP, hD, hB, iR, iP, i0, i1, i2, i3, iC, iN⟩ := hI
  obtain ⟨hi1, hi2, hi3, hi4, hi5⟩ := hin
  have lR := sr_len iR
  have lP := pl_len iP
  have l0 := kp_len i0
  have l1 := kp_len i1
  have l2 := kp_len i2
  have l3 := kp_len i3
  obtain ⟨r0, k_statusz, k_lines_numbersz, k_chart_wallsz, k_log_donez, k_log_undonez, k_statuszz, k_thrownzz, k_undoManyzz, k_redoManyzz, k_numberszz, k_wallzz, k_whozz, k_herezz, k_oldNumberszz, e1, e2, hB⟩ := pk_set (tr := tr) (sh := sh) (mp := mp) (ms := ms) (mk := mk) (mt := mt) hB (xs (x4 + 1).toNatClampNeg) (xs (x4 + 2).toNatClampNeg) (xs (x4 + 3).toNatClampNeg)
  refine lc_set Cx hi1 hi2 hi3 e1 e2 hP hD hS hl (by omega) (by omega) (fun H locs hP hD hS => ?_)
  exact K H locs _ _ ⟨zs, zp, _, _, _, _, _, _, _, _, _, _, _, _, _, _, _, _, _, ov, S, Pl, K0, K1, K2, K3, hP, hD, hB, iR, iP, i0, i1, i2, i3, (by omega), (by omega)⟩ hS
set_option maxHeartbeats 4000000 in
set_option maxRecDepth 100000 in
theorem st_line {p : Program} {l : Launch} {e : Env} {s : State} {m : MethodId} {below : List Frame} {meth : Method} {cd : Code} {Q : State → Prop} {H : Heap} {locs : List Loc} {cells slots : Nat} {ls : Array Slot} {b L : Nat} {xs : Nat → Int32} {D : va_G} {cT : Nat → ClassId} {A : Nat → Prop} {aS aX aY : Nat} {xa ma : Nat → Nat} {oa j : Nat} {x4 : Int32} (Cx : lwCx p s m cd b L xs D cT A aS aX aY) (hin : vp_in (x4 + 1) L ∧ vp_in (x4 + 2) L ∧ vp_in (x4 + 3) L ∧ vp_in (x4 + 4) L ∧ vp_in (x4 + 5) L) (hj : j ≤ 511) (hl : lv_has ls 7 [(0, .ref b), (1, .ref (xa 0)), (2, .ref (ma 0)), (3, .ref oa), (4, .int x4)]) (hI : lwI D cT A xa ma oa H cells slots j) (hS : va_S A s.heap H locs) (K : ∀ (H : Heap) (locs : List Loc) (nC nS : Nat), lwI D cT A xa ma oa H nC nS (j + 1) → va_S A s.heap H locs → W p l e room_1 s m #[Value.ref b] below meth cd H locs nC nS Q (F0 m 1291 ls [])) : W p l e room_1 s m #[Value.ref b] below meth cd H locs cells slots Q (F0 m 246 ls []) := by
  obtain ⟨zs, zp, o, ln, c, tr, g, sh, sw, mi, mw, mp, ml, mb, mu, ms, mk, mo, mt, ov, S, Pl, K0, K1, K2, K3, hP, hD, hB, iR, iP, i0, i1, i2, i3, iC, iN⟩ := hI
  obtain ⟨hi1, hi2, hi3, hi4, hi5⟩ := hin
  have lR := sr_len iR
  have lP := pl_len iP
  have l0 := kp_len i0
  have l1 := kp_len i1
  have l2 := kp_len i2
  have l3 := kp_len i3
  obtain ⟨r0, k_statusz, k_lines_sortz, k_lines_sizez, k_lines_numbersz, k_chart_wallsz, k_log_donez, k_log_undonez, k_statuszz, k_thrownzz, k_undoManyzz, k_redoManyzz, k_lineSortzz, k_lineManyzz, k_numberszz, k_wallzz, k_whozz, k_herezz, k_oldNumberszz, e1, e2, hB⟩ := pk_line (tr := tr) (sh := sh) (mp := mp) (ms := ms) (mk := mk) (mt := mt) hB (xs (x4 + 1).toNatClampNeg) (xs (x4 + 2).toNatClampNeg) (xs (x4 + 3).toNatClampNeg)
  refine lc_line Cx hi1 hi2 hi3 e1 e2 hP hD hS hl (by omega) (by omega) (fun H locs hP hD hS => ?_)
  exact K H locs _ _ ⟨zs, zp, _, _, _, _, _, _, _, _, _, _, _, _, _, _, _, _, _, ov, S, Pl, K0, K1, K2, K3, hP, hD, hB, iR, iP, i0, i1, i2, i3, (by omega), (by omega)⟩ hS
set_option maxHeartbeats 4000000 in
set_option maxRecDepth 100000 in
theorem st_carry {p : Program} {l : Launch} {e : Env} {s : State} {m : MethodId} {below : List Frame} {meth : Method} {cd : Code} {Q : State → Prop} {H : Heap} {locs : List Loc} {cells slots : Nat} {ls : Array Slot} {b L : Nat} {xs : Nat → Int32} {D : va_G} {cT : Nat → ClassId} {A : Nat → Prop} {aS aX aY : Nat} {xa ma : Nat → Nat} {oa j : Nat} {x4 : Int32} (Cx : lwCx p s m cd b L xs D cT A aS aX aY) (hin : vp_in (x4 + 1) L ∧ vp_in (x4 + 2) L ∧ vp_in (x4 + 3) L ∧ vp_in (x4 + 4) L ∧ vp_in (x4 + 5) L) (hj : j ≤ 511) (hl : lv_has ls 7 [(0, .ref b), (1, .ref (xa 0)), (2, .ref (ma 0)), (3, .ref oa), (4, .int x4)]) (hI : lwI D cT A xa ma oa H cells slots j) (hS : va_S A s.heap H locs) (K : ∀ (H : Heap) (locs : List Loc) (nC nS : Nat), lwI D cT A xa ma oa H nC nS (j + 1) → va_S A s.heap H locs → W p l e room_1 s m #[Value.ref b] below meth cd H locs nC nS Q (F0 m 1291 ls [])) : W p l e room_1 s m #[Value.ref b] below meth cd H locs cells slots Q (F0 m 381 ls []) := by
  obtain ⟨zs, zp, o, ln, c, tr, g, sh, sw, mi, mw, mp, ml, mb, mu, ms, mk, mo, mt, ov, S, Pl, K0, K1, K2, K3, hP, hD, hB, iR, iP, i0, i1, i2, i3, iC, iN⟩ := hI
  obtain ⟨hi1, hi2, hi3, hi4, hi5⟩ := hin
  have lR := sr_len iR
  have lP := pl_len iP
  have l0 := kp_len i0
  have l1 := kp_len i1
  have l2 := kp_len i2
  have l3 := kp_len i3
  obtain ⟨r0, k_statusz, k_lines_numbersz, k_lines_carriedz, k_chart_wallsz, k_log_donez, k_log_undonez, k_statuszz, k_thrownzz, k_undoManyzz, k_redoManyzz, k_numberszz, k_wallzz, k_whozz, k_herezz, k_oldNumberszz, e1, e2, hB⟩ := pk_carry (tr := tr) (sh := sh) (mp := mp) (ms := ms) (mk := mk) (mt := mt) hB (xs (x4 + 1).toNatClampNeg) (xs (x4 + 2).toNatClampNeg) (xs (x4 + 3).toNatClampNeg) (xs (x4 + 4).toNatClampNeg) (xs (x4 + 5).toNatClampNeg)
  refine lc_carry Cx hi1 hi2 hi3 hi4 hi5 e1 e2 hP hD hS hl (by omega) (by omega) (fun H locs hP hD hS => ?_)
  exact K H locs _ _ ⟨zs, zp, _, _, _, _, _, _, _, _, _, _, _, _, _, _, _, _, _, ov, S, Pl, K0, K1, K2, K3, hP, hD, hB, iR, iP, i0, i1, i2, i3, (by omega), (by omega)⟩ hS
set_option maxHeartbeats 4000000 in
set_option maxRecDepth 100000 in
theorem st_turn {p : Program} {l : Launch} {e : Env} {s : State} {m : MethodId} {below : List Frame} {meth : Method} {cd : Code} {Q : State → Prop} {H : Heap} {locs : List Loc} {cells slots : Nat} {ls : Array Slot} {b L : Nat} {xs : Nat → Int32} {D : va_G} {cT : Nat → ClassId} {A : Nat → Prop} {aS aX aY : Nat} {xa ma : Nat → Nat} {oa j : Nat} {x4 : Int32} (Cx : lwCx p s m cd b L xs D cT A aS aX aY) (hin : vp_in (x4 + 1) L ∧ vp_in (x4 + 2) L ∧ vp_in (x4 + 3) L ∧ vp_in (x4 + 4) L ∧ vp_in (x4 + 5) L) (hj : j ≤ 511) (hl : lv_has ls 7 [(0, .ref b), (1, .ref (xa 0)), (2, .ref (ma 0)), (3, .ref oa), (4, .int x4)]) (hI : lwI D cT A xa ma oa H cells slots j) (hS : va_S A s.heap H locs) (K : ∀ (H : Heap) (locs : List Loc) (nC nS : Nat), lwI D cT A xa ma oa H nC nS (j + 1) → va_S A s.heap H locs → W p l e room_1 s m #[Value.ref b] below meth cd H locs nC nS Q (F0 m 1291 ls [])) : W p l e room_1 s m #[Value.ref b] below meth cd H locs cells slots Q (F0 m 1119 ls []) := by
  obtain ⟨zs, zp, o, ln, c, tr, g, sh, sw, mi, mw, mp, ml, mb, mu, ms, mk, mo, mt, ov, S, Pl, K0, K1, K2, K3, hP, hD, hB, iR, iP, i0, i1, i2, i3, iC, iN⟩ := hI
  obtain ⟨hi1, hi2, hi3, hi4, hi5⟩ := hin
  have lR := sr_len iR
  have lP := pl_len iP
  have l0 := kp_len i0
  have l1 := kp_len i1
  have l2 := kp_len i2
  have l3 := kp_len i3
  obtain ⟨r0, k_statusz, k_lines_sortz, k_lines_sizez, k_lines_numbersz, k_chart_widthz, k_chart_heightz, k_chart_wallsz, k_chart_takenz, k_chart_placez, k_chart_gatez, k_chart_acrossz, k_chart_widez, k_chart_highz, k_chart_shapez, k_log_donez, k_log_undonez, k_statuszz, k_thrownzz, k_widthzz, k_heightzz, k_undoManyzz, k_redoManyzz, k_lineSortzz, k_lineManyzz, k_numberszz, k_wallzz, k_atzz, k_wayzz, k_gatezz, k_newWallzz, e1, e2, hB⟩ := pk_turn (tr := tr) (sh := sh) (mp := mp) (ms := ms) (mk := mk) (mt := mt) hB (decide (xs (x4 + 1).toNatClampNeg ≠ 0))
  refine lc_turn Cx hi1 e1 e2 hP hD hS hl (by omega) (by omega) (fun H locs hP hD hS => ?_)
  exact K H locs _ _ ⟨zs, zp, _, _, _, _, _, _, _, _, _, _, _, _, _, _, _, _, _, ov, S, Pl, K0, K1, K2, K3, hP, hD, hB, iR, iP, i0, i1, i2, i3, (by omega), (by omega)⟩ hS
set_option maxHeartbeats 4000000 in
set_option maxRecDepth 100000 in
theorem st_show {p : Program} {l : Launch} {e : Env} {s : State} {m : MethodId} {below : List Frame} {meth : Method} {cd : Code} {Q : State → Prop} {H : Heap} {locs : List Loc} {cells slots : Nat} {ls : Array Slot} {b L : Nat} {xs : Nat → Int32} {D : va_G} {cT : Nat → ClassId} {A : Nat → Prop} {aS aX aY : Nat} {xa ma : Nat → Nat} {oa j : Nat} {x4 : Int32} (Cx : lwCx p s m cd b L xs D cT A aS aX aY) (hin : vp_in (x4 + 1) L ∧ vp_in (x4 + 2) L ∧ vp_in (x4 + 3) L ∧ vp_in (x4 + 4) L ∧ vp_in (x4 + 5) L) (hj : j ≤ 511) (hl : lv_has ls 7 [(0, .ref b), (1, .ref (xa 0)), (2, .ref (ma 0)), (3, .ref oa), (4, .int x4)]) (hI : lwI D cT A xa ma oa H cells slots j) (hS : va_S A s.heap H locs) (K : ∀ (H : Heap) (locs : List Loc) (nC nS : Nat), lwI D cT A xa ma oa H nC nS (j + 1) → va_S A s.heap H locs → W p l e room_1 s m #[Value.ref b] below meth cd H locs nC nS Q (F0 m 1291 ls [])) : W p l e room_1 s m #[Value.ref b] below meth cd H locs cells slots Q (F0 m 1210 ls []) := by
  obtain ⟨zs, zp, o, ln, c, tr, g, sh, sw, mi, mw, mp, ml, mb, mu, ms, mk, mo, mt, ov, S, Pl, K0, K1, K2, K3, hP, hD, hB, iR, iP, i0, i1, i2, i3, iC, iN⟩ := hI
  obtain ⟨hi1, hi2, hi3, hi4, hi5⟩ := hin
  have lR := sr_len iR
  have lP := pl_len iP
  have l0 := kp_len i0
  have l1 := kp_len i1
  have l2 := kp_len i2
  have l3 := kp_len i3
  obtain ⟨r0, k_shownCountz, k_statusz, k_shownz, k_statuszz, k_thrownzz, k_outszz, k_whozz, k_herezz, k_outzz, e1, e2, hB⟩ := pk_show (tr := tr) (sh := sh) (mp := mp) (ms := ms) (mk := mk) (mt := mt) hB (xs (x4 + 1).toNatClampNeg)
  refine lc_show Cx hi1 e1 e2 hP hD hS hl (by omega) (by omega) (fun H locs hP hD hS => ?_)
  exact K H locs _ _ ⟨zs, zp, _, _, _, _, _, _, _, _, _, _, _, _, _, _, _, _, _, ov, S, Pl, K0, K1, K2, K3, hP, hD, hB, iR, iP, i0, i1, i2, i3, (by omega), (by omega)⟩ hS
