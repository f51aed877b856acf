set_option maxHeartbeats 4000000 in
set_option maxRecDepth 100000 in
theorem st_out {p : Program} {l : Launch} {e : Env} {s : State} {m : MethodId} {below : List Frame} {meth : Method} {cd : Code} {Q : State → Prop} {H : Heap} {locs : List Loc} {cells slots : Nat} {ls : Array Slot} {b L : Nat} {xs : Nat → Int32} {D : va_G} {cT : Nat → ClassId} {A : Nat → Prop} {aS aX aY : Nat} {xa ma : Nat → Nat} {oa j : Nat} {x4 : Int32} (Cx : lwCx p s m cd b L xs D cT A aS aX aY) (hlt : l.stackTraces = false) (hU : vx_Zq Bundle.tN "UNASSIGNED_STACK" Bundle.steD A s s.heap) (hNN : vx_Zq Bundle.tN "SUPPRESSED_SENTINEL" Bundle.listD A s s.heap) (hTw : jTw s) (hin : vp_in (x4 + 1) L ∧ vp_in (x4 + 2) L ∧ vp_in (x4 + 3) L ∧ vp_in (x4 + 4) L ∧ vp_in (x4 + 5) L) (hj : j ≤ 511) (hl : lv_has ls 7 [(0, .ref b), (1, .ref (xa 0)), (2, .ref (ma 0)), (3, .ref oa), (4, .int x4)]) (hI : lwI D cT A xa ma oa H cells slots j) (hS : va_S A s.heap H locs) (K : ∀ (H : Heap) (locs : List Loc) (nC nS : Nat) (ls : Array Slot), lwI D cT A xa ma oa H nC nS (j + 1) → va_S A s.heap H locs → lv_has ls 7 [(0, .ref b), (1, .ref (xa 0)), (2, .ref (ma 0)), (3, .ref oa), (4, .int x4)] → W p l e room_1 s m #[Value.ref b] below meth cd H locs nC nS Q (F0 m 1291 ls [])) : W p l e room_1 s m #[Value.ref b] below meth cd H locs cells slots Q (F0 m 1235 ls []) := by
  obtain ⟨zs, zp, o, ln, c, tr, g, sh, sw, mi, mw, mp, ml, mb, mu, ms, mk, mo, mt, ov, S, Pl, K0, K1, K2, K3, hP, hD, hB, iR, iP, i0, i1, i2, i3, iC, iN⟩ := hI
  obtain ⟨hi1, hi2, hi3, hi4, hi5⟩ := hin
  have lR := sr_len iR
  have lP := pl_len iP
  have l0 := kp_len i0
  have l1 := kp_len i1
  have l2 := kp_len i2
  have l3 := kp_len i3
  obtain ⟨hx, hb, hml, hown, hts, hK, hN, hA, hX, hbl, hbA, hZ_STEP, hX_STEP, hZ_STEP_X, hX_STEP_X, hZ_STEP_Y, hX_STEP_Y⟩ := id Cx
  refine lv_aload_n hx hb dL_law_1235 rfl (lv_at hl 1 rfl) ?_
  refine lv_aload_n hx hb dL_law_1236 rfl (lv_at hl 0 rfl) ?_
  refine lv_iload hx hb dL_law_1237 (lv_at hl 4 rfl) ?_
  refine lv_iconst (v := 1) hx hb dL_law_1239 (by decide) ?_
  refine lv_iadd hx hb dL_law_1240 ?_
  refine va_sld hx hb hX hbl hbA hS hi1 dL_law_1241 ?_
  refine lv_aload_n hx hb dL_law_1242 rfl (lv_at hl 3 rfl) ?_
  obtain ⟨v1, ev⟩ : ∃ z, z = xs (x4 + 1).toNatClampNeg := ⟨_, rfl⟩
  rw [← ev]
  rcases m_out hB.2.2.2 v1 mi.2.1 with ⟨hv, e2⟩ | ⟨k, z, k8, h0, h1, e2⟩
  · have hv₉ : v1 < 0 ∨ ¬ v1 < o.1 := hv.imp id (fun h => Int32.not_lt.mpr h)
    obtain ⟨hPc, hDc⟩ := jl_sub (cx := [((xa 0), .inr (6, [.ref (xa 1), .ref (xa 6), .ref (xa 15), .ref (xa 24), .ref (xa 26), .ref (xa 27), .int o.1, .int o.2.1, .int o.2.2.1, .int o.2.2.2.1, .int o.2.2.2.2, zs, zp]))]) hP hD [0] (by decide) rfl
    refine va_calli (vx_runSW (As := [.ref (xa 0), .int v1, .ref oa]) (rest := []) ⟨hx, hb, hml, hown, hts⟩ (c_lout1 l D cT (xa 0) (xa 1) (xa 6) (xa 15) (xa 24) (xa 26) (xa 27) zs zp o.1 o.2.1 o.2.2.1 o.2.2.2.1 o.2.2.2.2 v1 A H.size oa hlt hv₉) (vx_cwSW 3 hts gL_law_L_out rfl rfl rfl (by decide +kernel) ⟨Nat.le_of_ble_eq_true rfl, Nat.le_of_ble_eq_true rfl⟩) ⟨fun a U g mk q => by obtain ⟨q0, q1, qP, qK, qu, qn, qt⟩ := q; exact ⟨q0, q1, qP, va_K.moved (u := U) (U := U.calling g mk a) (Vm.Alike.refl U.vm) qK, vx_Zq.moved (u := U) (U := U.calling g mk a) (Vm.Alike.refl U.vm) qu, vx_Zq.moved (u := U) (U := U.calling g mk a) (Vm.Alike.refl U.vm) qn, jTw_same (u := U) (U := U.calling g mk a) rfl qt⟩, fun U hU9 hW => ⟨rfl, by rw [hU9], by rw [hU9]; exact hPc, va_K.moved hW.alike hK, by rw [hU9]; exact vx_Zq.moved hW.alike (vx_Zq.kept hU (fun a h1 h2 => hS.2.1 a h1 h2)), by rw [hU9]; exact vx_Zq.moved hW.alike (vx_Zq.kept hNN (fun a h1 h2 => hS.2.1 a h1 h2)), jTw_warm hW hTw⟩⟩ rfl rfl hl.1 rfl (lv_room (Nat.le_of_ble_eq_true rfl)) dL_law_1243 ⟨(show cells + 1 ≤ 61024 by omega), (show slots + 6 ≤ 8913034 by omega)⟩) hS (fun q h1 h2 => absurd h1 (Nat.not_lt.mpr h2)) (fun q h => hA q (Nat.le_trans hS.1 h)) (fun r u t H1 locs1 ht hvm er hB1 hz1 hk1 hS => ?_)
    subst er
    replace hP := jl_keep hP (fun q hq => hk1 q hq (Nat.not_le.mpr hq))
    refine lv_istore (lv' := [(5, .int 1), (0, .ref b), (1, .ref (xa 0)), (2, .ref (ma 0)), (3, .ref oa), (4, .int x4)]) hx hb dL_law_1246 hl (by decide) rfl (fun ls hl => ?_)
    refine lv_aload_n hx hb dL_law_1248 rfl (lv_at hl 3 rfl) ?_
    refine lv_aload_n hx hb dL_law_1249 rfl (lv_at hl 1 rfl) ?_
    refine lv_iload hx hb dL_law_1250 (lv_at hl 5 rfl) ?_
    refine lv_iconst (v := 1) hx hb dL_law_1252 (by decide) ?_
    refine lv_iadd hx hb dL_law_1253 ?_
    refine va_sld hx hb hX hbl hbA hS hi1 dL_law_1254 ?_
    rw [← ev]
    obtain ⟨hP, hD⟩ := jl_swap hP hD
    refine lm_out Cx e2 hP hD hS hl.1 (by omega) (by omega) (fun H locs hP hD hS => ?_)
    refine lv_istore (lv' := [(6, .int 0), (5, .int 1), (0, .ref b), (1, .ref (xa 0)), (2, .ref (ma 0)), (3, .ref oa), (4, .int x4)]) hx hb dL_law_1258 hl (by decide) rfl (fun ls hl => ?_)
    refine lv_aload_n hx hb dL_law_1260 rfl (lv_at hl 4 rfl) ?_
    refine lm_thrown Cx (r0 := 1) rfl hP hD hS hl.1 (by omega) (by omega) ?_
    obtain ⟨hP, hD⟩ := jl_swap hP hD
    refine lv_iload hx hb dL_law_1264 (lv_at hl 1 rfl) ?_
    refine lv_icmp_eq (tgt := 1271) hx hb dL_law_1266 (by decide) (fun cq => ?_) (fun cq => absurd rfl cq)
    refine lv_iload hx hb dL_law_1271 (lv_at hl 1 rfl) ?_
    refine lv_if_ne (tgt := 1288) hx hb dL_law_1273 (by decide) (fun cq => ?_) (fun cq => absurd cq (by decide))
    refine lv_goto (tgt := 1291) hx hb dL_law_1288 (by decide) ?_
    exact K _ _ _ _ _ ⟨zs, zp, _, _, _, _, _, _, _, _, _, _, _, _, _, _, _, _, _, ov, S, Pl, K0, K1, K2, K3, hP, hD, hB, iR, iP, i0, i1, i2, i3, (by omega), (by omega)⟩ hS (lv_sub hl [2, 3, 4, 5, 6] rfl)
  · obtain ⟨hP, hD⟩ := jl_perm (lw_t (x := wX xa zs zp cT o ln c tr g sh sw) (q := []) (s := [(oa, .inl (cT 1, 1, .inr (.inl ov)))])) hP hD
    have hi : vp_in v1 8 := by rw [z]; exact vp_in_nI k8 (by decide)
    have h1₉ : v1 < o.1 := Int32.not_le.mp h1
    obtain ⟨hPc, hDc⟩ := jl_sub (cx := [((xa 0), .inr (6, [.ref (xa 1), .ref (xa 6), .ref (xa 15), .ref (xa 24), .ref (xa 26), .ref (xa 27), .int o.1, .int o.2.1, .int o.2.2.1, .int o.2.2.2.1, .int o.2.2.2.2, zs, zp])), ((xa 27), .inl (cT 3, 8, .inl sw)), (oa, .inl (cT 1, 1, .inr (.inl ov)))]) hP hD [0, 27, 28] (by decide) rfl
    have hFc := jl_free (cx := [((xa 0), .inr (6, [.ref (xa 1), .ref (xa 6), .ref (xa 15), .ref (xa 24), .ref (xa 26), .ref (xa 27), .int o.1, .int o.2.1, .int o.2.2.1, .int o.2.2.2.1, .int o.2.2.2.2, zs, zp])), ((xa 27), .inl (cT 3, 8, .inl sw)), (oa, .inl (cT 1, 1, .inr (.inl ov)))]) hD hS hA [0, 27, 28] rfl
    refine va_calli (vx_runSW (As := [.ref (xa 0), .int v1, .ref oa]) (rest := []) ⟨hx, hb, hml, hown, hts⟩ (c_lout0 l D cT (xa 0) (xa 1) (xa 6) (xa 15) (xa 24) (xa 26) (xa 27) zs zp o.1 o.2.1 o.2.2.1 o.2.2.2.1 o.2.2.2.2 sw v1 H.size oa ov h0 h1₉ hi) (vx_cwSW 3 hts gL_law_L_out rfl rfl rfl (by decide +kernel) ⟨Nat.le_of_ble_eq_true rfl, Nat.le_of_ble_eq_true rfl⟩) ⟨fun a U g mk q => by obtain ⟨q0, q1, qP, qK, qD⟩ := q; exact ⟨q0, q1, qP, va_K.moved (u := U) (U := U.calling g mk a) (Vm.Alike.refl U.vm) qK, qD⟩, fun U hU9 hW => ⟨rfl, by rw [hU9], by rw [hU9]; exact hPc, va_K.moved hW.alike hK, hDc.weaken (fun _ _ _ _ => trivial)⟩⟩ rfl rfl hl.1 rfl (lv_room (Nat.le_of_ble_eq_true rfl)) dL_law_1243 ⟨(show cells + 0 ≤ 61024 by omega), (show slots + 0 ≤ 8913034 by omega)⟩) hS (fun q _ h => hFc q h) hFc (fun r u t H1 locs1 ht hvm er hB1 hz1 hk1 hS => ?_)
    subst er
    obtain ⟨hP1, hK1, hD1⟩ := hB1
    rw [ht] at hP1
    have hPD := va_joinQ (wr := [((xa 1), .inr (2, [.ref (xa 2), .ref (xa 3), .ref (xa 4), .ref (xa 5)])), ((xa 2), .inl (cT 0, 8, .inl ln.1)), ((xa 3), .inl (cT 0, 8, .inl ln.2.1)), ((xa 4), .inl (cT 0, 64, .inl ln.2.2.1)), ((xa 5), .inl (cT 0, 8, .inl ln.2.2.2)), ((xa 6), .inr (0, [.int c.1, .int c.2.1, .int c.2.2.1, .long c.2.2.2.1, .long c.2.2.2.2.1, .ref (xa 7), .ref (xa 8), .ref (xa 9), .ref (xa 10), .ref (xa 11), .ref (xa 12), .ref (xa 13), .ref (xa 14)])), ((xa 7), .inl (cT 0, 12, .inl c.2.2.2.2.2.1)), ((xa 8), .inl (cT 0, 12, .inl c.2.2.2.2.2.2.1)), ((xa 9), .inl (cT 0, 12, .inl c.2.2.2.2.2.2.2.1)), ((xa 10), .inl (cT 0, 12, .inl c.2.2.2.2.2.2.2.2.1)), ((xa 11), .inl (cT 2, 12, .inl c.2.2.2.2.2.2.2.2.2.1)), ((xa 12), .inl (cT 0, 12, .inl c.2.2.2.2.2.2.2.2.2.2.1)), ((xa 13), .inl (cT 0, 12, .inl c.2.2.2.2.2.2.2.2.2.2.2.1)), ((xa 14), .inl (cT 1, 12, .inr (.inl c.2.2.2.2.2.2.2.2.2.2.2.2))), ((xa 15), .inr (0, [.int tr.1, .int tr.2.1, .int tr.2.2.1, .long tr.2.2.2.1, .long tr.2.2.2.2.1, .ref (xa 16), .ref (xa 17), .ref (xa 18), .ref (xa 19), .ref (xa 20), .ref (xa 21), .ref (xa 22), .ref (xa 23)])), ((xa 16), .inl (cT 0, 12, .inl tr.2.2.2.2.2.1)), ((xa 17), .inl (cT 0, 12, .inl tr.2.2.2.2.2.2.1)), ((xa 18), .inl (cT 0, 12, .inl tr.2.2.2.2.2.2.2.1)), ((xa 19), .inl (cT 0, 12, .inl tr.2.2.2.2.2.2.2.2.1)), ((xa 20), .inl (cT 2, 12, .inl tr.2.2.2.2.2.2.2.2.2.1)), ((xa 21), .inl (cT 0, 12, .inl tr.2.2.2.2.2.2.2.2.2.2.1)), ((xa 22), .inl (cT 0, 12, .inl tr.2.2.2.2.2.2.2.2.2.2.2.1)), ((xa 23), .inl (cT 1, 12, .inr (.inl tr.2.2.2.2.2.2.2.2.2.2.2.2))), ((xa 24), .inr (3, [.ref (xa 25), .int g.1, .int g.2.1, .int g.2.2.1])), ((xa 25), .inl (cT 0, 60, .inl g.2.2.2)), ((xa 26), .inl (cT 6, 4, .inr (.inr (.inr (.inr sh)))))]) (w1 := [((xa 0), .inr (6, [.ref (xa 1), .ref (xa 6), .ref (xa 15), .ref (xa 24), .ref (xa 26), .ref (xa 27), .int o.1, .int o.2.1, .int o.2.2.1, .int o.2.2.2.1, .int o.2.2.2.2, zs, zp])), ((xa 27), .inl (cT 3, 8, .inl sw)), (oa, .inl (cT 1, 1, .inr (.inl (vp_updL ov 0 (sw v1.toNatClampNeg).toInt64))))]) hP hD [0, 27, 28] [1, 2, 3, 4, 5, 6, 7, 8, 9, 10, 11, 12, 13, 14, 15, 16, 17, 18, 19, 20, 21, 22, 23, 24, 25, 26] rfl rfl (by decide) (by decide) hk1 hFc hP1 hD1
    replace hP := hPD.1.part (cx := wX xa zs zp cT o ln c tr g sh sw ++ [(oa, .inl (cT 1, 1, .inr (.inl (vp_updL ov 0 (sw v1.toNatClampNeg).toInt64))))]) [26, 0, 1, 2, 3, 4, 5, 6, 7, 8, 9, 10, 11, 12, 13, 14, 15, 16, 17, 18, 19, 20, 21, 22, 23, 24, 25, 27, 28] rfl
    replace hD := hPD.2.part (cx := wX xa zs zp cT o ln c tr g sh sw ++ [(oa, .inl (cT 1, 1, .inr (.inl (vp_updL ov 0 (sw v1.toNatClampNeg).toInt64))))]) [26, 0, 1, 2, 3, 4, 5, 6, 7, 8, 9, 10, 11, 12, 13, 14, 15, 16, 17, 18, 19, 20, 21, 22, 23, 24, 25, 27, 28] (by decide) rfl
    refine lv_istore (lv' := [(5, .int 0), (0, .ref b), (1, .ref (xa 0)), (2, .ref (ma 0)), (3, .ref oa), (4, .int x4)]) hx hb dL_law_1246 hl (by decide) rfl (fun ls hl => ?_)
    refine lv_aload_n hx hb dL_law_1248 rfl (lv_at hl 3 rfl) ?_
    refine lv_aload_n hx hb dL_law_1249 rfl (lv_at hl 1 rfl) ?_
    refine lv_iload hx hb dL_law_1250 (lv_at hl 5 rfl) ?_
    refine lv_iconst (v := 1) hx hb dL_law_1252 (by decide) ?_
    refine lv_iadd hx hb dL_law_1253 ?_
    refine va_sld hx hb hX hbl hbA hS hi1 dL_law_1254 ?_
    rw [← ev]
    obtain ⟨hP, hD⟩ := jl_swap hP hD
    refine lm_out Cx e2 hP hD hS hl.1 (by omega) (by omega) (fun H locs hP hD hS => ?_)
    refine lv_istore (lv' := [(6, .int (sw k)), (5, .int 0), (0, .ref b), (1, .ref (xa 0)), (2, .ref (ma 0)), (3, .ref oa), (4, .int x4)]) hx hb dL_law_1258 hl (by decide) rfl (fun ls hl => ?_)
    refine lv_aload_n hx hb dL_law_1260 rfl (lv_at hl 4 rfl) ?_
    refine lm_thrown Cx (r0 := 0) rfl hP hD hS hl.1 (by omega) (by omega) ?_
    obtain ⟨hP, hD⟩ := jl_swap hP hD
    refine lv_iload hx hb dL_law_1264 (lv_at hl 1 rfl) ?_
    refine lv_icmp_eq (tgt := 1271) hx hb dL_law_1266 (by decide) (fun cq => ?_) (fun cq => absurd rfl cq)
    refine lv_iload hx hb dL_law_1271 (lv_at hl 1 rfl) ?_
    refine lv_if_ne (tgt := 1288) hx hb dL_law_1273 (by decide) (fun cq => absurd rfl cq) (fun cq => ?_)
    refine lv_aload_n hx hb dL_law_1276 rfl (lv_at hl 5 rfl) ?_
    refine lv_iconst (v := 0) hx hb dL_law_1277 (by decide) ?_
    refine va_lald hx hb hK hP 28 1 rfl rfl (show vp_in (0 : Int32) 1 by unfold vp_in; decide) dL_law_1278 ?_
    refine lv_iload hx hb dL_law_1279 (lv_at hl 0 rfl) ?_
    refine lv_i2l hx hb dL_law_1281 rfl ?_
    refine W.lcmp hx hb dL_law_1282 ?_
    refine lv_if_eq (tgt := 1288) hx hb dL_law_1283 (by decide) (fun cq => ?_) (fun cq => absurd (by rw [z, nI_clamp (show k < 2 ^ 31 by omega)]; exact jl_cmp) cq)
    obtain ⟨hP, hD⟩ := jl_perm (lw_t (x := wX xa zs zp cT o ln c tr g sh sw) (q := []) (s := [(oa, .inl (cT 1, 1, .inr (.inl (vp_updL ov 0 (sw v1.toNatClampNeg).toInt64))))])).symm hP hD
    refine lv_goto (tgt := 1291) hx hb dL_law_1288 (by decide) ?_
    exact K _ _ _ _ _ ⟨zs, zp, _, _, _, _, _, _, _, _, _, _, _, _, _, _, _, _, _, _, S, Pl, K0, K1, K2, K3, hP, hD, hB, iR, iP, i0, i1, i2, i3, (by omega), (by omega)⟩ hS (lv_sub hl [2, 3, 4, 5, 6] rfl)
