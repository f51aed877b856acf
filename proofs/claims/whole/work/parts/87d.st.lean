set_option maxHeartbeats 4000000 in
set_option maxRecDepth 100000 in
theorem st_keep {p : Program} {l : Launch} {e : Env} {s : State} {m : MethodId} {below : List Frame} {meth : Method} {cd : Code} {Q : State → Prop} {H : Heap} {locs : List Loc} {cells slots : Nat} {ls : Array Slot} {b L : Nat} {xs : Nat → Int32} {D : va_G} {cT : Nat → ClassId} {A : Nat → Prop} {aS aX aY : Nat} {xa ma : Nat → Nat} {oa j : Nat} {x4 : Int32} (Cx : lwCx p s m cd b L xs D cT A aS aX aY) (hin : vp_in (x4 + 1) L ∧ vp_in (x4 + 2) L ∧ vp_in (x4 + 3) L ∧ vp_in (x4 + 4) L ∧ vp_in (x4 + 5) L) (hj : j ≤ 511) (hl : lv_has ls 7 [(0, .ref b), (1, .ref (xa 0)), (2, .ref (ma 0)), (3, .ref oa), (4, .int x4)]) (hI : lwI D cT A xa ma oa H cells slots j) (hS : va_S A s.heap H locs) (K : ∀ (H : Heap) (locs : List Loc) (nC nS : Nat), lwI D cT A xa ma oa H nC nS (j + 1) → va_S A s.heap H locs → W p l e room_1 s m #[Value.ref b] below meth cd H locs nC nS Q (F0 m 1291 ls [])) : W p l e room_1 s m #[Value.ref b] below meth cd H locs cells slots Q (F0 m 1160 ls []) := by
  obtain ⟨zs, zp, o, ln, c, tr, g, sh, sw, mi, mw, mp, ml, mb, mu, ms, mk, mo, mt, ov, S, Pl, K0, K1, K2, K3, hP, hD, hB, iR, iP, i0, i1, i2, i3, iC, iN⟩ := hI
  obtain ⟨hi1, hi2, hi3, hi4, hi5⟩ := hin
  have lR := sr_len iR
  have lP := pl_len iP
  have l0 := kp_len i0
  have l1 := kp_len i1
  have l2 := kp_len i2
  have l3 := kp_len i3
  have lS : ∀ (sa : Nat → Nat) (sv : qS) (bd : qC), (wS sa cT sv bd).length = 18 := fun _ _ _ => rfl
  have lPl : ∀ (pa : Nat → Nat) (pv : qP), (wP pa cT pv).length = 2 := fun _ _ => rfl
  have lK : ∀ (ka : Nat → Nat) (kc : qC), (wK ka cT kc).length = 9 := fun _ _ => rfl
  rcases pk_keep_x (tr := tr) (sh := sh) (mp := mp) (ms := ms) (mk := mk) (mt := mt) hB (xs (x4 + 1).toNatClampNeg) with ⟨r0, k_statusz, k_statuszz, k_thrownzz, k_isKeptzz, k_keptWidthzz, k_keptHeightzz, k_keptBargeszz, k_keptWallzz, k_keptKindzz, k_keptAtzz, k_keptSizezz, k_keptWayzz, k_keptGatezz, e1, e2, hB, hm⟩ | ⟨k, X, hk, z, hJ⟩
  · refine lc_keep_shx Cx hi1 e1 e2 hP hD hS hl (by omega) (by omega) (fun H locs hP hD hS => ?_)
    exact K H locs _ _ ⟨zs, zp, _, _, _, _, _, _, _, _, _, _, _, _, _, _, _, _, _, ov, S, Pl, K0, K1, K2, K3, hP, hD, hB, iR, iP, (by rw [hm]; exact i0), (by rw [hm]; exact i1), (by rw [hm]; exact i2), (by rw [hm]; exact i3), (by simp only [lS, lPl, lK, List.length_nil] at *; omega), (by simp only [lS, lPl, lK, List.length_nil] at *; omega)⟩ hS
  · rcases (show k = 0 ∨ k = 1 ∨ k = 2 ∨ k = 3 by omega) with rfl | rfl | rfl | rfl
    · rcases i0 with ⟨hq, rfl, hi⟩ | ⟨ka, kc, Y, hq, rfl, hY⟩
      · obtain ⟨r0, k_statusz, k_sh_widthz, k_sh_heightz, k_sh_bargesz, k_sh_wallsz, k_sh_takenz, k_sh_kindz, k_sh_placez, k_sh_lengthz, k_sh_gatez, k_sh_acrossz, k_sh_widez, k_sh_highz, k_sh_shapez, k_statuszz, k_thrownzz, k_isKeptzz, k_keptWidthzz, k_keptHeightzz, k_keptBargeszz, k_keptWallzz, k_keptKindzz, k_keptAtzz, k_keptSizezz, k_keptWayzz, k_keptGatezz, e1, e2, hB, hY, hF⟩ := pk_keep_0 (tr := tr) (sh := sh) (mp := mp) (ms := ms) (mk := mk) (mt := mt) hB hk hJ hq
        rw [← z] at e1 e2
        refine lc_keep_sh0 Cx hi1 e1 e2 hP hD hS hl (by omega) (by omega) (fun ka H locs hP hD hS => ?_)
        obtain ⟨hP, hD⟩ := jl_perm lw_pK0.symm hP hD
        exact K H locs _ _ ⟨zs, zp, _, _, _, _, _, _, _, _, _, _, _, _, _, _, _, _, _, ov, S, Pl, _, K1, K2, K3, hP, hD, hB, iR, iP, Or.inr ⟨ka, _, X, by rw [z]; exact vu_at (by decide), rfl, hY⟩, kp_other (by decide) hF (by first | rfl | (rw [z]; exact vu_ne (by decide) (by decide))) i1, kp_other (by decide) hF (by first | rfl | (rw [z]; exact vu_ne (by decide) (by decide))) i2, kp_other (by decide) hF (by first | rfl | (rw [z]; exact vu_ne (by decide) (by decide))) i3, (by simp only [lS, lPl, lK, List.length_nil] at *; omega), (by simp only [lS, lPl, lK, List.length_nil] at *; omega)⟩ hS
      · obtain ⟨r0, k_statusz, k_sh_widthz, k_sh_heightz, k_sh_bargesz, k_sh_wallsz, k_sh_takenz, k_sh_kindz, k_sh_placez, k_sh_lengthz, k_sh_gatez, k_sh_acrossz, k_sh_widez, k_sh_highz, k_sh_shapez, k_statuszz, k_thrownzz, k_isKeptzz, k_keptWidthzz, k_keptHeightzz, k_keptBargeszz, k_keptWallzz, k_keptKindzz, k_keptAtzz, k_keptSizezz, k_keptWayzz, k_keptGatezz, e1, e2, hB, hY, hF⟩ := pk_keep_1 (tr := tr) (sh := sh) (mp := mp) (ms := ms) (mk := mk) (mt := mt) (kc := kc) hB hk hJ hq
        rw [← z] at e1 e2
        obtain ⟨hP, hD⟩ := jl_perm lw_pK0 hP hD
        refine lc_keep_sh1 Cx hi1 e1 e2 hP hD hS hl (by omega) (by omega) (fun H locs hP hD hS => ?_)
        obtain ⟨hP, hD⟩ := jl_perm lw_pK0.symm hP hD
        exact K H locs _ _ ⟨zs, zp, _, _, _, _, _, _, _, _, _, _, _, _, _, _, _, _, _, ov, S, Pl, _, K1, K2, K3, hP, hD, hB, iR, iP, Or.inr ⟨ka, _, X, hq, rfl, hY⟩, kp_other (by decide) hF (by first | rfl | (rw [z]; exact vu_ne (by decide) (by decide))) i1, kp_other (by decide) hF (by first | rfl | (rw [z]; exact vu_ne (by decide) (by decide))) i2, kp_other (by decide) hF (by first | rfl | (rw [z]; exact vu_ne (by decide) (by decide))) i3, (by simp only [lS, lPl, lK, List.length_nil] at *; omega), (by simp only [lS, lPl, lK, List.length_nil] at *; omega)⟩ hS
    · rcases i1 with ⟨hq, rfl, hi⟩ | ⟨ka, kc, Y, hq, rfl, hY⟩
      · obtain ⟨r0, k_statusz, k_sh_widthz, k_sh_heightz, k_sh_bargesz, k_sh_wallsz, k_sh_takenz, k_sh_kindz, k_sh_placez, k_sh_lengthz, k_sh_gatez, k_sh_acrossz, k_sh_widez, k_sh_highz, k_sh_shapez, k_statuszz, k_thrownzz, k_isKeptzz, k_keptWidthzz, k_keptHeightzz, k_keptBargeszz, k_keptWallzz, k_keptKindzz, k_keptAtzz, k_keptSizezz, k_keptWayzz, k_keptGatezz, e1, e2, hB, hY, hF⟩ := pk_keep_0 (tr := tr) (sh := sh) (mp := mp) (ms := ms) (mk := mk) (mt := mt) hB hk hJ hq
        rw [← z] at e1 e2
        refine lc_keep_sh0 Cx hi1 e1 e2 hP hD hS hl (by omega) (by omega) (fun ka H locs hP hD hS => ?_)
        obtain ⟨hP, hD⟩ := jl_perm lw_pK1.symm hP hD
        exact K H locs _ _ ⟨zs, zp, _, _, _, _, _, _, _, _, _, _, _, _, _, _, _, _, _, ov, S, Pl, K0, _, K2, K3, hP, hD, hB, iR, iP, kp_other (by decide) hF (by first | rfl | (rw [z]; exact vu_ne (by decide) (by decide))) i0, Or.inr ⟨ka, _, X, by rw [z]; exact vu_at (by decide), rfl, hY⟩, kp_other (by decide) hF (by first | rfl | (rw [z]; exact vu_ne (by decide) (by decide))) i2, kp_other (by decide) hF (by first | rfl | (rw [z]; exact vu_ne (by decide) (by decide))) i3, (by simp only [lS, lPl, lK, List.length_nil] at *; omega), (by simp only [lS, lPl, lK, List.length_nil] at *; omega)⟩ hS
      · obtain ⟨r0, k_statusz, k_sh_widthz, k_sh_heightz, k_sh_bargesz, k_sh_wallsz, k_sh_takenz, k_sh_kindz, k_sh_placez, k_sh_lengthz, k_sh_gatez, k_sh_acrossz, k_sh_widez, k_sh_highz, k_sh_shapez, k_statuszz, k_thrownzz, k_isKeptzz, k_keptWidthzz, k_keptHeightzz, k_keptBargeszz, k_keptWallzz, k_keptKindzz, k_keptAtzz, k_keptSizezz, k_keptWayzz, k_keptGatezz, e1, e2, hB, hY, hF⟩ := pk_keep_1 (tr := tr) (sh := sh) (mp := mp) (ms := ms) (mk := mk) (mt := mt) (kc := kc) hB hk hJ hq
        rw [← z] at e1 e2
        obtain ⟨hP, hD⟩ := jl_perm lw_pK1 hP hD
        refine lc_keep_sh1 Cx hi1 e1 e2 hP hD hS hl (by omega) (by omega) (fun H locs hP hD hS => ?_)
        obtain ⟨hP, hD⟩ := jl_perm lw_pK1.symm hP hD
        exact K H locs _ _ ⟨zs, zp, _, _, _, _, _, _, _, _, _, _, _, _, _, _, _, _, _, ov, S, Pl, K0, _, K2, K3, hP, hD, hB, iR, iP, kp_other (by decide) hF (by first | rfl | (rw [z]; exact vu_ne (by decide) (by decide))) i0, Or.inr ⟨ka, _, X, hq, rfl, hY⟩, kp_other (by decide) hF (by first | rfl | (rw [z]; exact vu_ne (by decide) (by decide))) i2, kp_other (by decide) hF (by first | rfl | (rw [z]; exact vu_ne (by decide) (by decide))) i3, (by simp only [lS, lPl, lK, List.length_nil] at *; omega), (by simp only [lS, lPl, lK, List.length_nil] at *; omega)⟩ hS
    · rcases i2 with ⟨hq, rfl, hi⟩ | ⟨ka, kc, Y, hq, rfl, hY⟩
      · obtain ⟨r0, k_statusz, k_sh_widthz, k_sh_heightz, k_sh_bargesz, k_sh_wallsz, k_sh_takenz, k_sh_kindz, k_sh_placez, k_sh_lengthz, k_sh_gatez, k_sh_acrossz, k_sh_widez, k_sh_highz, k_sh_shapez, k_statuszz, k_thrownzz, k_isKeptzz, k_keptWidthzz, k_keptHeightzz, k_keptBargeszz, k_keptWallzz, k_keptKindzz, k_keptAtzz, k_keptSizezz, k_keptWayzz, k_keptGatezz, e1, e2, hB, hY, hF⟩ := pk_keep_0 (tr := tr) (sh := sh) (mp := mp) (ms := ms) (mk := mk) (mt := mt) hB hk hJ hq
        rw [← z] at e1 e2
        refine lc_keep_sh0 Cx hi1 e1 e2 hP hD hS hl (by omega) (by omega) (fun ka H locs hP hD hS => ?_)
        obtain ⟨hP, hD⟩ := jl_perm lw_pK2.symm hP hD
        exact K H locs _ _ ⟨zs, zp, _, _, _, _, _, _, _, _, _, _, _, _, _, _, _, _, _, ov, S, Pl, K0, K1, _, K3, hP, hD, hB, iR, iP, kp_other (by decide) hF (by first | rfl | (rw [z]; exact vu_ne (by decide) (by decide))) i0, kp_other (by decide) hF (by first | rfl | (rw [z]; exact vu_ne (by decide) (by decide))) i1, Or.inr ⟨ka, _, X, by rw [z]; exact vu_at (by decide), rfl, hY⟩, kp_other (by decide) hF (by first | rfl | (rw [z]; exact vu_ne (by decide) (by decide))) i3, (by simp only [lS, lPl, lK, List.length_nil] at *; omega), (by simp only [lS, lPl, lK, List.length_nil] at *; omega)⟩ hS
      · obtain ⟨r0, k_statusz, k_sh_widthz, k_sh_heightz, k_sh_bargesz, k_sh_wallsz, k_sh_takenz, k_sh_kindz, k_sh_placez, k_sh_lengthz, k_sh_gatez, k_sh_acrossz, k_sh_widez, k_sh_highz, k_sh_shapez, k_statuszz, k_thrownzz, k_isKeptzz, k_keptWidthzz, k_keptHeightzz, k_keptBargeszz, k_keptWallzz, k_keptKindzz, k_keptAtzz, k_keptSizezz, k_keptWayzz, k_keptGatezz, e1, e2, hB, hY, hF⟩ := pk_keep_1 (tr := tr) (sh := sh) (mp := mp) (ms := ms) (mk := mk) (mt := mt) (kc := kc) hB hk hJ hq
        rw [← z] at e1 e2
        obtain ⟨hP, hD⟩ := jl_perm lw_pK2 hP hD
        refine lc_keep_sh1 Cx hi1 e1 e2 hP hD hS hl (by omega) (by omega) (fun H locs hP hD hS => ?_)
        obtain ⟨hP, hD⟩ := jl_perm lw_pK2.symm hP hD
        exact K H locs _ _ ⟨zs, zp, _, _, _, _, _, _, _, _, _, _, _, _, _, _, _, _, _, ov, S, Pl, K0, K1, _, K3, hP, hD, hB, iR, iP, kp_other (by decide) hF (by first | rfl | (rw [z]; exact vu_ne (by decide) (by decide))) i0, kp_other (by decide) hF (by first | rfl | (rw [z]; exact vu_ne (by decide) (by decide))) i1, Or.inr ⟨ka, _, X, hq, rfl, hY⟩, kp_other (by decide) hF (by first | rfl | (rw [z]; exact vu_ne (by decide) (by decide))) i3, (by simp only [lS, lPl, lK, List.length_nil] at *; omega), (by simp only [lS, lPl, lK, List.length_nil] at *; omega)⟩ hS
    · rcases i3 with ⟨hq, rfl, hi⟩ | ⟨ka, kc, Y, hq, rfl, hY⟩
      · obtain ⟨r0, k_statusz, k_sh_widthz, k_sh_heightz, k_sh_bargesz, k_sh_wallsz, k_sh_takenz, k_sh_kindz, k_sh_placez, k_sh_lengthz, k_sh_gatez, k_sh_acrossz, k_sh_widez, k_sh_highz, k_sh_shapez, k_statuszz, k_thrownzz, k_isKeptzz, k_keptWidthzz, k_keptHeightzz, k_keptBargeszz, k_keptWallzz, k_keptKindzz, k_keptAtzz, k_keptSizezz, k_keptWayzz, k_keptGatezz, e1, e2, hB, hY, hF⟩ := pk_keep_0 (tr := tr) (sh := sh) (mp := mp) (ms := ms) (mk := mk) (mt := mt) hB hk hJ hq
        rw [← z] at e1 e2
        refine lc_keep_sh0 Cx hi1 e1 e2 hP hD hS hl (by omega) (by omega) (fun ka H locs hP hD hS => ?_)
        obtain ⟨hP, hD⟩ := jl_perm lw_pK3.symm hP hD
        exact K H locs _ _ ⟨zs, zp, _, _, _, _, _, _, _, _, _, _, _, _, _, _, _, _, _, ov, S, Pl, K0, K1, K2, _, hP, hD, hB, iR, iP, kp_other (by decide) hF (by first | rfl | (rw [z]; exact vu_ne (by decide) (by decide))) i0, kp_other (by decide) hF (by first | rfl | (rw [z]; exact vu_ne (by decide) (by decide))) i1, kp_other (by decide) hF (by first | rfl | (rw [z]; exact vu_ne (by decide) (by decide))) i2, Or.inr ⟨ka, _, X, by rw [z]; exact vu_at (by decide), rfl, hY⟩, (by simp only [lS, lPl, lK, List.length_nil] at *; omega), (by simp only [lS, lPl, lK, List.length_nil] at *; omega)⟩ hS
      · obtain ⟨r0, k_statusz, k_sh_widthz, k_sh_heightz, k_sh_bargesz, k_sh_wallsz, k_sh_takenz, k_sh_kindz, k_sh_placez, k_sh_lengthz, k_sh_gatez, k_sh_acrossz, k_sh_widez, k_sh_highz, k_sh_shapez, k_statuszz, k_thrownzz, k_isKeptzz, k_keptWidthzz, k_keptHeightzz, k_keptBargeszz, k_keptWallzz, k_keptKindzz, k_keptAtzz, k_keptSizezz, k_keptWayzz, k_keptGatezz, e1, e2, hB, hY, hF⟩ := pk_keep_1 (tr := tr) (sh := sh) (mp := mp) (ms := ms) (mk := mk) (mt := mt) (kc := kc) hB hk hJ hq
        rw [← z] at e1 e2
        obtain ⟨hP, hD⟩ := jl_perm lw_pK3 hP hD
        refine lc_keep_sh1 Cx hi1 e1 e2 hP hD hS hl (by omega) (by omega) (fun H locs hP hD hS => ?_)
        obtain ⟨hP, hD⟩ := jl_perm lw_pK3.symm hP hD
        exact K H locs _ _ ⟨zs, zp, _, _, _, _, _, _, _, _, _, _, _, _, _, _, _, _, _, ov, S, Pl, K0, K1, K2, _, hP, hD, hB, iR, iP, kp_other (by decide) hF (by first | rfl | (rw [z]; exact vu_ne (by decide) (by decide))) i0, kp_other (by decide) hF (by first | rfl | (rw [z]; exact vu_ne (by decide) (by decide))) i1, kp_other (by decide) hF (by first | rfl | (rw [z]; exact vu_ne (by decide) (by decide))) i2, Or.inr ⟨ka, _, X, hq, rfl, hY⟩, (by simp only [lS, lPl, lK, List.length_nil] at *; omega), (by simp only [lS, lPl, lK, List.length_nil] at *; omega)⟩ hS
set_option maxHeartbeats 4000000 in
set_option maxRecDepth 100000 in
theorem st_same {p : Program} {l : Launch} {e : Env} {s : State} {m : MethodId} {below : List Frame} {meth : Method} {cd : Code} {Q : State → Prop} {H : Heap} {locs : List Loc} {cells slots : Nat} {ls : Array Slot} {b L : Nat} {xs : Nat → Int32} {D : va_G} {cT : Nat → ClassId} {A : Nat → Prop} {aS aX aY : Nat} {xa ma : Nat → Nat} {oa j : Nat} {x4 : Int32} (Cx : lwCx p s m cd b L xs D cT A aS aX aY) (hin : vp_in (x4 + 1) L ∧ vp_in (x4 + 2) L ∧ vp_in (x4 + 3) L ∧ vp_in (x4 + 4) L ∧ vp_in (x4 + 5) L) (hj : j ≤ 511) (hl : lv_has ls 7 [(0, .ref b), (1, .ref (xa 0)), (2, .ref (ma 0)), (3, .ref oa), (4, .int x4)]) (hI : lwI D cT A xa ma oa H cells slots j) (hS : va_S A s.heap H locs) (K : ∀ (H : Heap) (locs : List Loc) (nC nS : Nat), lwI D cT A xa ma oa H nC nS (j + 1) → va_S A s.heap H locs → W p l e room_1 s m #[Value.ref b] below meth cd H locs nC nS Q (F0 m 1291 ls [])) : W p l e room_1 s m #[Value.ref b] below meth cd H locs cells slots Q (F0 m 1185 ls []) := by
  obtain ⟨zs, zp, o, ln, c, tr, g, sh, sw, mi, mw, mp, ml, mb, mu, ms, mk, mo, mt, ov, S, Pl, K0, K1, K2, K3, hP, hD, hB, iR, iP, i0, i1, i2, i3, iC, iN⟩ := hI
  obtain ⟨hi1, hi2, hi3, hi4, hi5⟩ := hin
  have lR := sr_len iR
  have lP := pl_len iP
  have l0 := kp_len i0
  have l1 := kp_len i1
  have l2 := kp_len i2
  have l3 := kp_len i3
  have lS : ∀ (sa : Nat → Nat) (sv : qS) (bd : qC), (wS sa cT sv bd).length = 18 := fun _ _ _ => rfl
  have lPl : ∀ (pa : Nat → Nat) (pv : qP), (wP pa cT pv).length = 2 := fun _ _ => rfl
  have lK : ∀ (ka : Nat → Nat) (kc : qC), (wK ka cT kc).length = 9 := fun _ _ => rfl
  rcases pk_same_x (tr := tr) (sh := sh) (mp := mp) (ms := ms) (mk := mk) (mt := mt) hB (xs (x4 + 1).toNatClampNeg) with ⟨r0, k_statusz, k_statuszz, k_thrownzz, k_asWidthzz, k_asHeightzz, k_newWallzz, k_asAtzz, k_asGatezz, k_asWayzz, k_asWidezz, k_asTallzz, k_asWallzz, e1, e2, hB⟩ | ⟨k, X, hk, z, hJ⟩
  · refine lc_same_shx Cx hi1 e1 e2 hP hD hS hl (by omega) (by omega) (fun H locs hP hD hS => ?_)
    exact K H locs _ _ ⟨zs, zp, _, _, _, _, _, _, _, _, _, _, _, _, _, _, _, _, _, ov, S, Pl, K0, K1, K2, K3, hP, hD, hB, iR, iP, i0, i1, i2, i3, (by simp only [lS, lPl, lK, List.length_nil] at *; omega), (by simp only [lS, lPl, lK, List.length_nil] at *; omega)⟩ hS
  · rcases (show k = 0 ∨ k = 1 ∨ k = 2 ∨ k = 3 by omega) with rfl | rfl | rfl | rfl
    · rcases i0 with ⟨hq, rfl, hi⟩ | ⟨ka, kc, Y, hq, rfl, hY⟩
      · obtain ⟨r0, k_statusz, k_statuszz, k_thrownzz, k_asWidthzz, k_asHeightzz, k_newWallzz, k_asAtzz, k_asGatezz, k_asWayzz, k_asWidezz, k_asTallzz, k_asWallzz, e1, e2, hB⟩ := pk_same_0 (tr := tr) (sh := sh) (mp := mp) (ms := ms) (mk := mk) (mt := mt) hB hk hJ hq hi
        rw [← z] at e1 e2
        refine lc_same_sh0 Cx hi1 e1 e2 hP hD hS hl (by omega) (by omega) (fun H locs hP hD hS => ?_)
        exact K H locs _ _ ⟨zs, zp, _, _, _, _, _, _, _, _, _, _, _, _, _, _, _, _, _, ov, S, Pl, [], K1, K2, K3, hP, hD, hB, iR, iP, Or.inl ⟨hq, rfl, hi⟩, i1, i2, i3, (by simp only [lS, lPl, lK, List.length_nil] at *; omega), (by simp only [lS, lPl, lK, List.length_nil] at *; omega)⟩ hS
      · obtain ⟨r0, k_statusz, k_trial_widthz, k_trial_heightz, k_trial_bargesz, k_trial_wallsz, k_trial_takenz, k_trial_kindz, k_trial_placez, k_trial_lengthz, k_trial_gatez, k_trial_acrossz, k_trial_widez, k_trial_highz, k_trial_shapez, k_statuszz, k_thrownzz, k_asWidthzz, k_asHeightzz, k_newWallzz, k_asAtzz, k_asGatezz, k_asWayzz, k_asWidezz, k_asTallzz, k_asWallzz, e1, e2, hB⟩ := pk_same_1 (tr := tr) (sh := sh) (mp := mp) (ms := ms) (mt := mt) hB hk hJ hq hY
        rw [← z] at e1 e2
        obtain ⟨hP, hD⟩ := jl_perm lw_pK0 hP hD
        refine lc_same_sh1 Cx hi1 e1 e2 hP hD hS hl (by omega) (by omega) (fun H locs hP hD hS => ?_)
        obtain ⟨hP, hD⟩ := jl_perm lw_pK0.symm hP hD
        exact K H locs _ _ ⟨zs, zp, _, _, _, _, _, _, _, _, _, _, _, _, _, _, _, _, _, ov, S, Pl, _, K1, K2, K3, hP, hD, hB, iR, iP, Or.inr ⟨ka, kc, Y, hq, rfl, hY⟩, i1, i2, i3, (by simp only [lS, lPl, lK, List.length_nil] at *; omega), (by simp only [lS, lPl, lK, List.length_nil] at *; omega)⟩ hS
    · rcases i1 with ⟨hq, rfl, hi⟩ | ⟨ka, kc, Y, hq, rfl, hY⟩
      · obtain ⟨r0, k_statusz, k_statuszz, k_thrownzz, k_asWidthzz, k_asHeightzz, k_newWallzz, k_asAtzz, k_asGatezz, k_asWayzz, k_asWidezz, k_asTallzz, k_asWallzz, e1, e2, hB⟩ := pk_same_0 (tr := tr) (sh := sh) (mp := mp) (ms := ms) (mk := mk) (mt := mt) hB hk hJ hq hi
        rw [← z] at e1 e2
        refine lc_same_sh0 Cx hi1 e1 e2 hP hD hS hl (by omega) (by omega) (fun H locs hP hD hS => ?_)
        exact K H locs _ _ ⟨zs, zp, _, _, _, _, _, _, _, _, _, _, _, _, _, _, _, _, _, ov, S, Pl, K0, [], K2, K3, hP, hD, hB, iR, iP, i0, Or.inl ⟨hq, rfl, hi⟩, i2, i3, (by simp only [lS, lPl, lK, List.length_nil] at *; omega), (by simp only [lS, lPl, lK, List.length_nil] at *; omega)⟩ hS
      · obtain ⟨r0, k_statusz, k_trial_widthz, k_trial_heightz, k_trial_bargesz, k_trial_wallsz, k_trial_takenz, k_trial_kindz, k_trial_placez, k_trial_lengthz, k_trial_gatez, k_trial_acrossz, k_trial_widez, k_trial_highz, k_trial_shapez, k_statuszz, k_thrownzz, k_asWidthzz, k_asHeightzz, k_newWallzz, k_asAtzz, k_asGatezz, k_asWayzz, k_asWidezz, k_asTallzz, k_asWallzz, e1, e2, hB⟩ := pk_same_1 (tr := tr) (sh := sh) (mp := mp) (ms := ms) (mt := mt) hB hk hJ hq hY
        rw [← z] at e1 e2
        obtain ⟨hP, hD⟩ := jl_perm lw_pK1 hP hD
        refine lc_same_sh1 Cx hi1 e1 e2 hP hD hS hl (by omega) (by omega) (fun H locs hP hD hS => ?_)
        obtain ⟨hP, hD⟩ := jl_perm lw_pK1.symm hP hD
        exact K H locs _ _ ⟨zs, zp, _, _, _, _, _, _, _, _, _, _, _, _, _, _, _, _, _, ov, S, Pl, K0, _, K2, K3, hP, hD, hB, iR, iP, i0, Or.inr ⟨ka, kc, Y, hq, rfl, hY⟩, i2, i3, (by simp only [lS, lPl, lK, List.length_nil] at *; omega), (by simp only [lS, lPl, lK, List.length_nil] at *; omega)⟩ hS
    · rcases i2 with ⟨hq, rfl, hi⟩ | ⟨ka, kc, Y, hq, rfl, hY⟩
      · obtain ⟨r0, k_statusz, k_statuszz, k_thrownzz, k_asWidthzz, k_asHeightzz, k_newWallzz, k_asAtzz, k_asGatezz, k_asWayzz, k_asWidezz, k_asTallzz, k_asWallzz, e1, e2, hB⟩ := pk_same_0 (tr := tr) (sh := sh) (mp := mp) (ms := ms) (mk := mk) (mt := mt) hB hk hJ hq hi
        rw [← z] at e1 e2
        refine lc_same_sh0 Cx hi1 e1 e2 hP hD hS hl (by omega) (by omega) (fun H locs hP hD hS => ?_)
        exact K H locs _ _ ⟨zs, zp, _, _, _, _, _, _, _, _, _, _, _, _, _, _, _, _, _, ov, S, Pl, K0, K1, [], K3, hP, hD, hB, iR, iP, i0, i1, Or.inl ⟨hq, rfl, hi⟩, i3, (by simp only [lS, lPl, lK, List.length_nil] at *; omega), (by simp only [lS, lPl, lK, List.length_nil] at *; omega)⟩ hS
      · obtain ⟨r0, k_statusz, k_trial_widthz, k_trial_heightz, k_trial_bargesz, k_trial_wallsz, k_trial_takenz, k_trial_kindz, k_trial_placez, k_trial_lengthz, k_trial_gatez, k_trial_acrossz, k_trial_widez, k_trial_highz, k_trial_shapez, k_statuszz, k_thrownzz, k_asWidthzz, k_asHeightzz, k_newWallzz, k_asAtzz, k_asGatezz, k_asWayzz, k_asWidezz, k_asTallzz, k_asWallzz, e1, e2, hB⟩ := pk_same_1 (tr := tr) (sh := sh) (mp := mp) (ms := ms) (mt := mt) hB hk hJ hq hY
        rw [← z] at e1 e2
        obtain ⟨hP, hD⟩ := jl_perm lw_pK2 hP hD
        refine lc_same_sh1 Cx hi1 e1 e2 hP hD hS hl (by omega) (by omega) (fun H locs hP hD hS => ?_)
        obtain ⟨hP, hD⟩ := jl_perm lw_pK2.symm hP hD
        exact K H locs _ _ ⟨zs, zp, _, _, _, _, _, _, _, _, _, _, _, _, _, _, _, _, _, ov, S, Pl, K0, K1, _, K3, hP, hD, hB, iR, iP, i0, i1, Or.inr ⟨ka, kc, Y, hq, rfl, hY⟩, i3, (by simp only [lS, lPl, lK, List.length_nil] at *; omega), (by simp only [lS, lPl, lK, List.length_nil] at *; omega)⟩ hS
    · rcases i3 with ⟨hq, rfl, hi⟩ | ⟨ka, kc, Y, hq, rfl, hY⟩
      · obtain ⟨r0, k_statusz, k_statuszz, k_thrownzz, k_asWidthzz, k_asHeightzz, k_newWallzz, k_asAtzz, k_asGatezz, k_asWayzz, k_asWidezz, k_asTallzz, k_asWallzz, e1, e2, hB⟩ := pk_same_0 (tr := tr) (sh := sh) (mp := mp) (ms := ms) (mk := mk) (mt := mt) hB hk hJ hq hi
        rw [← z] at e1 e2
        refine lc_same_sh0 Cx hi1 e1 e2 hP hD hS hl (by omega) (by omega) (fun H locs hP hD hS => ?_)
        exact K H locs _ _ ⟨zs, zp, _, _, _, _, _, _, _, _, _, _, _, _, _, _, _, _, _, ov, S, Pl, K0, K1, K2, [], hP, hD, hB, iR, iP, i0, i1, i2, Or.inl ⟨hq, rfl, hi⟩, (by simp only [lS, lPl, lK, List.length_nil] at *; omega), (by simp only [lS, lPl, lK, List.length_nil] at *; omega)⟩ hS
      · obtain ⟨r0, k_statusz, k_trial_widthz, k_trial_heightz, k_trial_bargesz, k_trial_wallsz, k_trial_takenz, k_trial_kindz, k_trial_placez, k_trial_lengthz, k_trial_gatez, k_trial_acrossz, k_trial_widez, k_trial_highz, k_trial_shapez, k_statuszz, k_thrownzz, k_asWidthzz, k_asHeightzz, k_newWallzz, k_asAtzz, k_asGatezz, k_asWayzz, k_asWidezz, k_asTallzz, k_asWallzz, e1, e2, hB⟩ := pk_same_1 (tr := tr) (sh := sh) (mp := mp) (ms := ms) (mt := mt) hB hk hJ hq hY
        rw [← z] at e1 e2
        obtain ⟨hP, hD⟩ := jl_perm lw_pK3 hP hD
        refine lc_same_sh1 Cx hi1 e1 e2 hP hD hS hl (by omega) (by omega) (fun H locs hP hD hS => ?_)
        obtain ⟨hP, hD⟩ := jl_perm lw_pK3.symm hP hD
        exact K H locs _ _ ⟨zs, zp, _, _, _, _, _, _, _, _, _, _, _, _, _, _, _, _, _, ov, S, Pl, K0, K1, K2, _, hP, hD, hB, iR, iP, i0, i1, i2, Or.inr ⟨ka, kc, Y, hq, rfl, hY⟩, (by simp only [lS, lPl, lK, List.length_nil] at *; omega), (by simp only [lS, lPl, lK, List.length_nil] at *; omega)⟩ hS
