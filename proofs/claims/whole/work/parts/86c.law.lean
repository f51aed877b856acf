set_option maxHeartbeats 4000000 in
set_option maxRecDepth 100000 in
theorem lc_show {p : Program} {l : Launch} {e : Env} {s : State} {m : MethodId} {below : List Frame} {meth : Method} {cd : Code} {Q : State → Prop} {H : Heap} {locs : List Loc} {cells slots : Nat} {ls : Array Slot} {b L : Nat} {xs : Nat → Int32} {D : va_G} {cT : Nat → ClassId} {A : Nat → Prop} {aS aX aY : Nat} (Cx : lwCx p s m cd b L xs D cT A aS aX aY)  {xa : Nat → Nat} {zs zp : Value} {o : qO} {ln : qL} {c : qC} {tr : qC} {g : qG} {sh : qQ} {sw : qF} {ma : Nat → Nat} {mi : q_mi} {mw : q_mw} {mp : q_mp} {ml : q_ml} {mb : q_mb} {mu : q_mu} {ms : q_ms} {mk : q_mk} {mo : q_mo} {mt : q_mt} {oa : Nat} {x4 : Int32} {R : va_W} {r0 : Int32} {k_shownCount' : Int32} {k_status' : Int32} {k_shown' : Nat → Int32} {k_status'' : Int32} {k_thrown'' : Int32} {k_outs'' : Int32} {k_who'' : Nat → Int32} {k_here'' : Nat → Int32} {k_out'' : Nat → Int32} (hi1 : vp_in (x4 + 1) L) (hf1 : f_BargeBasin_show (xs (x4 + 1).toNatClampNeg) o.1 o.2.1 c.1 c.2.1 c.2.2.1 c.2.2.2.1 c.2.2.2.2.2.1 c.2.2.2.2.2.2.1 c.2.2.2.2.2.2.2.2.2.2.2.2 sw = some (r0, k_shownCount', k_status', k_shown')) (hf2 : f_BargeBasinModel_show (xs (x4 + 1).toNatClampNeg) mi.1 mi.2.1 mi.2.2.1 mi.2.2.2.1 mi.2.2.2.2.1 mi.2.2.2.2.2.1 mo.1 ml.2.2.2 mb.1 mb.2.1 mb.2.2.1 mb.2.2.2.1 mt.2.2.2.1 mt.2.2.2.2.1 mo.2 = some (r0, k_status'', k_thrown'', k_outs'', k_who'', k_here'', k_out'')) (hP : va_P D vwCl ((wX xa zs zp cT o ln c tr g sh sw) ++ (wM ma cT mi mw mp ml mb mu ms mk mo mt ++ R)) H) (hD : va_D A ((wX xa zs zp cT o ln c tr g sh sw) ++ (wM ma cT mi mw mp ml mb mu ms mk mo mt ++ R))) (hS : va_S A s.heap H locs) (hl : lv_has ls 7 [(0, .ref b), (1, .ref (xa 0)), (2, .ref (ma 0)), (3, .ref oa), (4, .int x4)]) (hc : cells ≤ 61024) (hs : slots ≤ 8913034) (K : ∀ (H : Heap) (locs : List Loc), va_P D vwCl ((wX xa zs zp cT (k_shownCount', k_status', o.2.2.1, o.2.2.2.1, o.2.2.2.2) ln c tr g sh k_shown') ++ (wM ma cT (k_status'', k_thrown'', mi.2.2.1, mi.2.2.2.1, mi.2.2.2.2.1, mi.2.2.2.2.2.1, mi.2.2.2.2.2.2.1, mi.2.2.2.2.2.2.2) mw mp ml mb mu ms mk (k_outs'', k_out'') (mt.1, mt.2.1, mt.2.2.1, k_who'', k_here'', mt.2.2.2.2.2.1, mt.2.2.2.2.2.2.1, mt.2.2.2.2.2.2.2.1, mt.2.2.2.2.2.2.2.2.1, mt.2.2.2.2.2.2.2.2.2.1, mt.2.2.2.2.2.2.2.2.2.2.1, mt.2.2.2.2.2.2.2.2.2.2.2.1, mt.2.2.2.2.2.2.2.2.2.2.2.2.1, mt.2.2.2.2.2.2.2.2.2.2.2.2.2) ++ R)) H → va_D A ((wX xa zs zp cT (k_shownCount', k_status', o.2.2.1, o.2.2.2.1, o.2.2.2.2) ln c tr g sh k_shown') ++ (wM ma cT (k_status'', k_thrown'', mi.2.2.1, mi.2.2.2.1, mi.2.2.2.2.1, mi.2.2.2.2.2.1, mi.2.2.2.2.2.2.1, mi.2.2.2.2.2.2.2) mw mp ml mb mu ms mk (k_outs'', k_out'') (mt.1, mt.2.1, mt.2.2.1, k_who'', k_here'', mt.2.2.2.2.2.1, mt.2.2.2.2.2.2.1, mt.2.2.2.2.2.2.2.1, mt.2.2.2.2.2.2.2.2.1, mt.2.2.2.2.2.2.2.2.2.1, mt.2.2.2.2.2.2.2.2.2.2.1, mt.2.2.2.2.2.2.2.2.2.2.2.1, mt.2.2.2.2.2.2.2.2.2.2.2.2.1, mt.2.2.2.2.2.2.2.2.2.2.2.2.2) ++ R)) → va_S A s.heap H locs → W p l e room_1 s m #[Value.ref b] below meth cd H locs cells slots Q (F0 m 1291 ls [])) : W p l e room_1 s m #[Value.ref b] below meth cd H locs cells slots Q (F0 m 1210 ls []) := by
  obtain ⟨hx, hb, hml, hown, hts, hK, hN, hA, hX, hbl, hbA, hZ_STEP, hX_STEP, hZ_STEP_X, hX_STEP_X, hZ_STEP_Y, hX_STEP_Y⟩ := id Cx
  refine lv_aload_n hx hb dL_law_1210 rfl (lv_at hl 1 rfl) ?_
  refine lv_aload_n hx hb dL_law_1211 rfl (lv_at hl 0 rfl) ?_
  refine lv_iload hx hb dL_law_1212 (lv_at hl 4 rfl) ?_
  refine lv_iconst (v := 1) hx hb dL_law_1214 (by decide) ?_
  refine lv_iadd hx hb dL_law_1215 ?_
  refine va_sld hx hb hX hbl hbA hS hi1 dL_law_1216 ?_
  refine lx_show Cx hf1 hP hD hS hl.1 hc hs (fun H locs hP hD hS => ?_)
  refine lv_aload_n hx hb dL_law_1220 rfl (lv_at hl 2 rfl) ?_
  refine lv_aload_n hx hb dL_law_1221 rfl (lv_at hl 0 rfl) ?_
  refine lv_iload hx hb dL_law_1222 (lv_at hl 4 rfl) ?_
  refine lv_iconst (v := 1) hx hb dL_law_1224 (by decide) ?_
  refine lv_iadd hx hb dL_law_1225 ?_
  refine va_sld hx hb hX hbl hbA hS hi1 dL_law_1226 ?_
  obtain ⟨hP, hD⟩ := jl_swap hP hD
  refine lm_show Cx hf2 hP hD hS hl.1 hc hs (fun H locs hP hD hS => ?_)
  obtain ⟨hP, hD⟩ := jl_swap hP hD
  refine lv_icmp_eq (tgt := 1291) hx hb dL_law_1230 (by decide) (fun cq => ?_) (fun cq => absurd rfl cq)
  exact K _ _ hP hD hS
