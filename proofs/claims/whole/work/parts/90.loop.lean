/-! THE LAW's LOOP (printed by wip/law/loop.py) -/
theorem lwI_more {D : va_G} {cT : Nat → ClassId} {A : Nat → Prop} {xa ma : Nat → Nat} {oa : Nat} {H : Heap} {nC nS j : Nat} (h : lwI D cT A xa ma oa H nC nS j) : lwI D cT A xa ma oa H nC nS (j + 1) := by
  obtain ⟨zs, zp, o, ln, c, tr, g, sh, sw, mi, mw, mp, ml, mb, mu, ms, mk, mo, mt, ov, S, Pl, K0, K1, K2, K3, hP, hD, hB, iR, iP, i0, i1, i2, i3, iC, iN⟩ := h
  exact ⟨zs, zp, o, ln, c, tr, g, sh, sw, mi, mw, mp, ml, mb, mu, ms, mk, mo, mt, ov, S, Pl, K0, K1, K2, K3, hP, hD, hB, iR, iP, i0, i1, i2, i3, by omega, by omega⟩
theorem lwI_room {D : va_G} {cT : Nat → ClassId} {A : Nat → Prop} {xa ma : Nat → Nat} {oa : Nat} {H : Heap} {nC nS j : Nat} (h : lwI D cT A xa ma oa H nC nS j) (hj : j ≤ 600) : nC ≤ 61024 ∧ nS ≤ 8913034 := by
  obtain ⟨zs, zp, o, ln, c, tr, g, sh, sw, mi, mw, mp, ml, mb, mu, ms, mk, mo, mt, ov, S, Pl, K0, K1, K2, K3, hP, hD, hB, iR, iP, i0, i1, i2, i3, iC, iN⟩ := h
  have lR := sr_len iR
  have lP := pl_len iP
  have l0 := kp_len i0
  have l1 := kp_len i1
  have l2 := kp_len i2
  have l3 := kp_len i3
  constructor <;> omega
theorem lp_gt {L i : Nat} (hL : L ≤ 3072) (hi : i ≤ 4000) : (nI L - 6 < nI i) ↔ L < i + 6 := by
  rw [Int32.lt_iff_toInt_lt, Int32.toInt_sub]
  have e1 : (nI L).toInt = L := Int32.toInt_ofNat_of_lt (by omega)
  have e2 : (nI i).toInt = i := Int32.toInt_ofNat_of_lt (by omega)
  have e3 : (6 : Int32).toInt = 6 := by decide
  rw [e1, e2, e3, Int.bmod_eq_of_le (by omega) (by omega)]
  omega
set_option maxHeartbeats 4000000 in
set_option maxRecDepth 100000 in
theorem law_end {p : Program} {l : Launch} {e : Env} {s : State} {m : MethodId} {below : List Frame} {meth : Method} {cd : Code} {b L : Nat} {xs : Nat → Int32} {D : va_G} {cT : Nat → ClassId} {aS aX aY : Nat} {xa ma : Nat → Nat} {oa : Nat} (hL : L ≤ 3072) (Cx : lwCx p s m cd b L xs D cT (fun q : Nat => s.heap.size ≤ q) aS aX aY) (hr : meth.sig.returnType = ret) (hlocks : meth.locks = false) {j : Nat} {x4 : Int32} (hlast : L < 6 * j + 6) (hj : 6 * j ≤ L + 5) (ex : x4 = nI (6 * j)) {H : Heap} {locs : List Loc} {nC nS : Nat} (hI : lwI D cT (fun q : Nat => s.heap.size ≤ q) xa ma oa H nC nS j) (hS : va_S (fun q : Nat => s.heap.size ≤ q) s.heap H locs) {ls : Array Slot} (hl : lv_has ls 7 [(0, .ref b), (1, .ref (xa 0)), (2, .ref (ma 0)), (3, .ref oa), (4, .int x4)]) : W p l e room_1 s m #[Value.ref b] below meth cd H locs nC nS (lw_Z below #[Value.ref b] s) (F0 m 23 ls []) := by
  obtain ⟨hx, hb, hml, hown, hts, hK, hN, hA, hX, hbl, hbA, hZ_STEP, hX_STEP, hZ_STEP_X, hX_STEP_X, hZ_STEP_Y, hX_STEP_Y⟩ := id Cx
  refine lv_iload hx hb dL_law_23 (lv_at hl 4 rfl) ?_
  refine lv_aload_n hx hb dL_law_25 rfl (lv_at hl 0 rfl) ?_
  refine va_slen hx hb hX hbl hbA hS dL_law_26 ?_
  refine lv_bipush (v := 6) hx hb dL_law_27 (by decide) ?_
  refine lv_isub hx hb dL_law_29 ?_
  refine lv_icmp_gt (tgt := 1297) hx hb dL_law_30 (by decide) (fun cq => ?_) (fun cq => absurd (by rw [ex]; exact (lp_gt hL (by omega)).mpr hlast) cq)
  refine lv_iconst (v := 1) hx hb dL_law_1297 (by decide) ?_
  obtain ⟨r1, r2⟩ := lwI_room hI (by omega)
  refine va_forget (fun q hq => hS.2.2 q hq) ?_
  refine W.widen (k := 61024) (n := 8913034) r1 r2 ?_
  exact lw_ret hx hb hr hlocks dL_law_1298
set_option maxHeartbeats 4000000 in
set_option maxRecDepth 100000 in
theorem law_loop {p : Program} {l : Launch} {e : Env} {s : State} {m : MethodId} {below : List Frame} {meth : Method} {cd : Code} {b L : Nat} {xs : Nat → Int32} {D : va_G} {cT : Nat → ClassId} {aS aX aY : Nat} {xa ma : Nat → Nat} {oa : Nat} (hL : L ≤ 3072) (Cx : lwCx p s m cd b L xs D cT (fun q : Nat => s.heap.size ≤ q) aS aX aY) (hlt : l.stackTraces = false) (hU : vx_Zq Bundle.tN "UNASSIGNED_STACK" Bundle.steD (fun q : Nat => s.heap.size ≤ q) s s.heap) (hNN : vx_Zq Bundle.tN "SUPPRESSED_SENTINEL" Bundle.listD (fun q : Nat => s.heap.size ≤ q) s s.heap) (hTw : jTw s) (hr : meth.sig.returnType = ret) (hlocks : meth.locks = false) : ∀ (n j : Nat) (x4 : Int32), L < 6 * j + n → 6 * j ≤ L + 5 → x4 = nI (6 * j) → ∀ (H : Heap) (locs : List Loc) (nC nS : Nat), lwI D cT (fun q : Nat => s.heap.size ≤ q) xa ma oa H nC nS j → va_S (fun q : Nat => s.heap.size ≤ q) s.heap H locs → ∀ (ls : Array Slot), lv_has ls 7 [(0, .ref b), (1, .ref (xa 0)), (2, .ref (ma 0)), (3, .ref oa), (4, .int x4)] → W p l e room_1 s m #[Value.ref b] below meth cd H locs nC nS (lw_Z below #[Value.ref b] s) (F0 m 23 ls []) := by
  intro n
  induction n with
  | zero =>
    intro j x4 hn hj ex H locs nC nS hI hS ls hl
    exact law_end hL Cx hr hlocks (by omega) hj ex hI hS hl
  | succ n ih =>
    intro j x4 hn hj ex H locs nC nS hI hS ls hl
    by_cases hlast : L < 6 * j + 6
    · exact law_end hL Cx hr hlocks hlast hj ex hI hS hl
    · obtain ⟨hx, hb, hml, hown, hts, hK, hN, hA, hX, hbl, hbA, hZ_STEP, hX_STEP, hZ_STEP_X, hX_STEP_X, hZ_STEP_Y, hX_STEP_Y⟩ := id Cx
      refine lv_iload hx hb dL_law_23 (lv_at hl 4 rfl) ?_
      refine lv_aload_n hx hb dL_law_25 rfl (lv_at hl 0 rfl) ?_
      refine va_slen hx hb hX hbl hbA hS dL_law_26 ?_
      refine lv_bipush (v := 6) hx hb dL_law_27 (by decide) ?_
      refine lv_isub hx hb dL_law_29 ?_
      refine lv_icmp_gt (tgt := 1297) hx hb dL_law_30 (by decide) (fun cq => absurd ((lp_gt hL (by omega)).mp (by rw [ex] at cq; exact cq)) hlast) (fun cq => ?_)
      have hjl : j ≤ 511 := by omega
      have hin : ∀ k : Nat, k ≤ 5 → vp_in (nI (6 * j) + nI k) L := fun k hk => by rw [nI_add]; exact vp_in_nI (by omega) (by omega)
      have hx4 : vp_in x4 L := by rw [ex]; exact vp_in_nI (by omega) (by omega)
      have hi5 : vp_in (x4 + 1) L ∧ vp_in (x4 + 2) L ∧ vp_in (x4 + 3) L ∧ vp_in (x4 + 4) L ∧ vp_in (x4 + 5) L := by rw [ex]; exact ⟨hin 1 (by omega), hin 2 (by omega), hin 3 (by omega), hin 4 (by omega), hin 5 (by omega)⟩
      have Kn : ∀ (H : Heap) (locs : List Loc) (nC nS : Nat) (ls : Array Slot), lwI D cT (fun q : Nat => s.heap.size ≤ q) xa ma oa H nC nS (j + 1) → va_S (fun q : Nat => s.heap.size ≤ q) s.heap H locs → lv_has ls 7 [(0, .ref b), (1, .ref (xa 0)), (2, .ref (ma 0)), (3, .ref oa), (4, .int x4)] → W p l e room_1 s m #[Value.ref b] below meth cd H locs nC nS (lw_Z below #[Value.ref b] s) (F0 m 1291 ls []) := by
        intro H locs nC nS ls hI hS hl
        obtain ⟨x5, ex5⟩ : ∃ y : Int32, y = x4 + 6 := ⟨_, rfl⟩
        refine lv_iinc (v := x5) (lv' := [(4, .int x5), (0, .ref b), (1, .ref (xa 0)), (2, .ref (ma 0)), (3, .ref oa)]) hx hb dL_law_1291 hl (k := 4) rfl (by rw [ex5]; rfl) (by decide) rfl (fun ls hl => ?_)
        refine lv_goto (tgt := 23) hx hb dL_law_1294 (by decide) ?_
        exact ih (j + 1) x5 (by omega) (by omega) (by rw [ex5, ex]; exact nI_add (6 * j) 6) _ _ _ _ hI hS ls (lv_sub hl [1, 2, 3, 4, 0] rfl)
      refine lv_aload_n hx hb dL_law_33 rfl (lv_at hl 0 rfl) ?_
      refine lv_iload hx hb dL_law_34 (lv_at hl 4 rfl) ?_
      refine va_sld hx hb hX hbl hbA hS hx4 dL_law_36 ?_
      refine lv_bipush (v := 63) hx hb dL_law_37 (by decide) ?_
      refine lv_iand hx hb dL_law_39 ?_
      refine lv_topi (fun sw esw => ?_)
      by_cases c0 : sw = (0 : Int32)
      · refine lv_tableIn (off := 156) (tgt := 196) hx hb dL_law_40 (by rw [c0]; decide) (by rw [c0]; decide) (by rw [c0]; decide) (by decide) ?_
        exact st_status Cx hi5 hjl hl hI hS (fun H locs nC nS hI hS => Kn H locs nC nS ls hI hS hl)
      by_cases c1 : sw = (1 : Int32)
      · refine lv_tableIn (off := 169) (tgt := 209) hx hb dL_law_40 (by rw [c1]; decide) (by rw [c1]; decide) (by rw [c1]; decide) (by decide) ?_
        exact st_basin Cx hi5 hjl hl hI hS (fun H locs nC nS hI hS => Kn H locs nC nS ls hI hS hl)
      by_cases c2 : sw = (2 : Int32)
      · refine lv_tableIn (off := 206) (tgt := 246) hx hb dL_law_40 (by rw [c2]; decide) (by rw [c2]; decide) (by rw [c2]; decide) (by decide) ?_
        exact st_line Cx hi5 hjl hl hI hS (fun H locs nC nS hI hS => Kn H locs nC nS ls hI hS hl)
      by_cases c3 : sw = (3 : Int32)
      · refine lv_tableIn (off := 255) (tgt := 295) hx hb dL_law_40 (by rw [c3]; decide) (by rw [c3]; decide) (by rw [c3]; decide) (by decide) ?_
        exact st_set Cx hi5 hjl hl hI hS (fun H locs nC nS hI hS => Kn H locs nC nS ls hI hS hl)
      by_cases c4 : sw = (4 : Int32)
      · refine lv_tableIn (off := 304) (tgt := 344) hx hb dL_law_40 (by rw [c4]; decide) (by rw [c4]; decide) (by rw [c4]; decide) (by decide) ?_
        exact st_get Cx hi5 hjl hl hI hS (fun H locs nC nS hI hS => Kn H locs nC nS ls hI hS hl)
      by_cases c5 : sw = (5 : Int32)
      · refine lv_tableIn (off := 341) (tgt := 381) hx hb dL_law_40 (by rw [c5]; decide) (by rw [c5]; decide) (by rw [c5]; decide) (by decide) ?_
        exact st_carry Cx hi5 hjl hl hI hS (fun H locs nC nS hI hS => Kn H locs nC nS ls hI hS hl)
      by_cases c6 : sw = (6 : Int32)
      · refine lv_tableIn (off := 414) (tgt := 454) hx hb dL_law_40 (by rw [c6]; decide) (by rw [c6]; decide) (by rw [c6]; decide) (by decide) ?_
        exact st_tear Cx hi5 hjl hl hI hS (fun H locs nC nS hI hS => Kn H locs nC nS ls hI hS hl)
      by_cases c7 : sw = (7 : Int32)
      · refine lv_tableIn (off := 439) (tgt := 479) hx hb dL_law_40 (by rw [c7]; decide) (by rw [c7]; decide) (by rw [c7]; decide) (by decide) ?_
        exact st_barge Cx hi5 hjl hl hI hS (fun H locs nC nS hI hS => Kn H locs nC nS ls hI hS hl)
      by_cases c8 : sw = (8 : Int32)
      · refine lv_tableIn (off := 528) (tgt := 568) hx hb dL_law_40 (by rw [c8]; decide) (by rw [c8]; decide) (by rw [c8]; decide) (by decide) ?_
        exact st_gate Cx hi5 hjl hl hI hS (fun H locs nC nS hI hS => Kn H locs nC nS ls hI hS hl)
      by_cases c9 : sw = (9 : Int32)
      · refine lv_tableIn (off := 577) (tgt := 617) hx hb dL_law_40 (by rw [c9]; decide) (by rw [c9]; decide) (by rw [c9]; decide) (by decide) ?_
        exact st_lift Cx hi5 hjl hl hI hS (fun H locs nC nS hI hS => Kn H locs nC nS ls hI hS hl)
      by_cases c10 : sw = (10 : Int32)
      · refine lv_tableIn (off := 602) (tgt := 642) hx hb dL_law_40 (by rw [c10]; decide) (by rw [c10]; decide) (by rw [c10]; decide) (by decide) ?_
        exact st_lies Cx hi5 hjl hl hI hS (fun H locs nC nS hI hS => Kn H locs nC nS ls hI hS hl)
      by_cases c11 : sw = (11 : Int32)
      · refine lv_tableIn (off := 639) (tgt := 679) hx hb dL_law_40 (by rw [c11]; decide) (by rw [c11]; decide) (by rw [c11]; decide) (by decide) ?_
        exact st_field Cx hi5 hjl hl hI hS (fun H locs nC nS hI hS => Kn H locs nC nS ls hI hS hl)
      by_cases c12 : sw = (12 : Int32)
      · refine lv_tableIn (off := 676) (tgt := 716) hx hb dL_law_40 (by rw [c12]; decide) (by rw [c12]; decide) (by rw [c12]; decide) (by decide) ?_
        exact st_count Cx hi5 hjl hl hI hS (fun H locs nC nS hI hS => Kn H locs nC nS ls hI hS hl)
      by_cases c13 : sw = (13 : Int32)
      · refine lv_tableIn (off := 701) (tgt := 741) hx hb dL_law_40 (by rw [c13]; decide) (by rw [c13]; decide) (by rw [c13]; decide) (by decide) ?_
        exact st_room Cx hi5 hjl hl hI hS (fun H locs nC nS hI hS => Kn H locs nC nS ls hI hS hl)
      by_cases c14 : sw = (14 : Int32)
      · refine lv_tableIn (off := 738) (tgt := 778) hx hb dL_law_40 (by rw [c14]; decide) (by rw [c14]; decide) (by rw [c14]; decide) (by decide) ?_
        exact st_slide Cx hi5 hjl hl hI hS (fun H locs nC nS hI hS => Kn H locs nC nS ls hI hS hl)
      by_cases c15 : sw = (15 : Int32)
      · refine lv_tableIn (off := 787) (tgt := 827) hx hb dL_law_40 (by rw [c15]; decide) (by rw [c15]; decide) (by rw [c15]; decide) (by decide) ?_
        exact st_why Cx hi5 hjl hl hI hS (fun H locs nC nS hI hS => Kn H locs nC nS ls hI hS hl)
      by_cases c16 : sw = (16 : Int32)
      · refine lv_tableIn (off := 812) (tgt := 852) hx hb dL_law_40 (by rw [c16]; decide) (by rw [c16]; decide) (by rw [c16]; decide) (by decide) ?_
        exact st_undo Cx hi5 hjl hl hI hS (fun H locs nC nS hI hS => Kn H locs nC nS ls hI hS hl)
      by_cases c17 : sw = (17 : Int32)
      · refine lv_tableIn (off := 825) (tgt := 865) hx hb dL_law_40 (by rw [c17]; decide) (by rw [c17]; decide) (by rw [c17]; decide) (by decide) ?_
        exact st_redo Cx hi5 hjl hl hI hS (fun H locs nC nS hI hS => Kn H locs nC nS ls hI hS hl)
      by_cases c18 : sw = (18 : Int32)
      · refine lv_tableIn (off := 838) (tgt := 878) hx hb dL_law_40 (by rw [c18]; decide) (by rw [c18]; decide) (by rw [c18]; decide) (by decide) ?_
        exact st_fewest Cx hi5 hjl hl hI hS (fun H locs nC nS hI hS => Kn H locs nC nS ls hI hS hl)
      by_cases c19 : sw = (19 : Int32)
      · refine lv_tableIn (off := 851) (tgt := 891) hx hb dL_law_40 (by rw [c19]; decide) (by rw [c19]; decide) (by rw [c19]; decide) (by decide) ?_
        exact st_fewestSteps Cx hi5 hjl hl hI hS (fun H locs nC nS hI hS => Kn H locs nC nS ls hI hS hl)
      by_cases c20 : sw = (20 : Int32)
      · refine lv_tableIn (off := 864) (tgt := 904) hx hb dL_law_40 (by rw [c20]; decide) (by rw [c20]; decide) (by rw [c20]; decide) (by decide) ?_
        exact st_planned Cx hi5 hjl hl hI hS (fun H locs nC nS hI hS => Kn H locs nC nS ls hI hS hl)
      by_cases c21 : sw = (21 : Int32)
      · refine lv_tableIn (off := 901) (tgt := 941) hx hb dL_law_40 (by rw [c21]; decide) (by rw [c21]; decide) (by rw [c21]; decide) (by decide) ?_
        exact st_follow Cx hi5 hjl hl hI hS (fun H locs nC nS hI hS => Kn H locs nC nS ls hI hS hl)
      by_cases c22 : sw = (22 : Int32)
      · refine lv_tableIn (off := 938) (tgt := 978) hx hb dL_law_40 (by rw [c22]; decide) (by rw [c22]; decide) (by rw [c22]; decide) (by decide) ?_
        exact st_all Cx hi5 hjl hl hI hS (fun H locs nC nS hI hS => Kn H locs nC nS ls hI hS hl)
      by_cases c23 : sw = (23 : Int32)
      · refine lv_tableIn (off := 952) (tgt := 992) hx hb dL_law_40 (by rw [c23]; decide) (by rw [c23]; decide) (by rw [c23]; decide) (by decide) ?_
        exact st_must Cx hi5 hjl hl hI hS (fun H locs nC nS hI hS => Kn H locs nC nS ls hI hS hl)
      by_cases c24 : sw = (24 : Int32)
      · refine lv_tableIn (off := 977) (tgt := 1017) hx hb dL_law_40 (by rw [c24]; decide) (by rw [c24]; decide) (by rw [c24]; decide) (by decide) ?_
        exact st_low Cx hi5 hjl hl hI hS (fun H locs nC nS hI hS => Kn H locs nC nS ls hI hS hl)
      by_cases c25 : sw = (25 : Int32)
      · refine lv_tableIn (off := 990) (tgt := 1030) hx hb dL_law_40 (by rw [c25]; decide) (by rw [c25]; decide) (by rw [c25]; decide) (by decide) ?_
        exact st_reach Cx hi5 hjl hl hI hS (fun H locs nC nS hI hS => Kn H locs nC nS ls hI hS hl)
      by_cases c26 : sw = (26 : Int32)
      · refine lv_tableIn (off := 1003) (tgt := 1043) hx hb dL_law_40 (by rw [c26]; decide) (by rw [c26]; decide) (by rw [c26]; decide) (by decide) ?_
        exact st_far Cx hi5 hjl hl hI hS (fun H locs nC nS hI hS => Kn H locs nC nS ls hI hS hl)
      by_cases c27 : sw = (27 : Int32)
      · refine lv_tableIn (off := 1016) (tgt := 1056) hx hb dL_law_40 (by rw [c27]; decide) (by rw [c27]; decide) (by rw [c27]; decide) (by decide) ?_
        exact st_go Cx hi5 hjl hl hI hS (fun H locs nC nS hI hS => Kn H locs nC nS ls hI hS hl)
      by_cases c28 : sw = (28 : Int32)
      · refine lv_tableIn (off := 1029) (tgt := 1069) hx hb dL_law_40 (by rw [c28]; decide) (by rw [c28]; decide) (by rw [c28]; decide) (by decide) ?_
        exact st_make Cx hi5 hjl hl hI hS (fun H locs nC nS hI hS => Kn H locs nC nS ls hI hS hl)
      by_cases c29 : sw = (29 : Int32)
      · refine lv_tableIn (off := 1066) (tgt := 1106) hx hb dL_law_40 (by rw [c29]; decide) (by rw [c29]; decide) (by rw [c29]; decide) (by decide) ?_
        exact st_trim Cx hi5 hjl hl hI hS (fun H locs nC nS hI hS => Kn H locs nC nS ls hI hS hl)
      by_cases c30 : sw = (30 : Int32)
      · refine lv_tableIn (off := 1079) (tgt := 1119) hx hb dL_law_40 (by rw [c30]; decide) (by rw [c30]; decide) (by rw [c30]; decide) (by decide) ?_
        exact st_turn Cx hi5 hjl hl hI hS (fun H locs nC nS hI hS => Kn H locs nC nS ls hI hS hl)
      by_cases c31 : sw = (31 : Int32)
      · refine lv_tableIn (off := 1120) (tgt := 1160) hx hb dL_law_40 (by rw [c31]; decide) (by rw [c31]; decide) (by rw [c31]; decide) (by decide) ?_
        exact st_keep Cx hi5 hjl hl hI hS (fun H locs nC nS hI hS => Kn H locs nC nS ls hI hS hl)
      by_cases c32 : sw = (32 : Int32)
      · refine lv_tableIn (off := 1145) (tgt := 1185) hx hb dL_law_40 (by rw [c32]; decide) (by rw [c32]; decide) (by rw [c32]; decide) (by decide) ?_
        exact st_same Cx hi5 hjl hl hI hS (fun H locs nC nS hI hS => Kn H locs nC nS ls hI hS hl)
      by_cases c33 : sw = (33 : Int32)
      · refine lv_tableIn (off := 1170) (tgt := 1210) hx hb dL_law_40 (by rw [c33]; decide) (by rw [c33]; decide) (by rw [c33]; decide) (by decide) ?_
        exact st_show Cx hi5 hjl hl hI hS (fun H locs nC nS hI hS => Kn H locs nC nS ls hI hS hl)
      by_cases c34 : sw = (34 : Int32)
      · refine lv_tableIn (off := 1195) (tgt := 1235) hx hb dL_law_40 (by rw [c34]; decide) (by rw [c34]; decide) (by rw [c34]; decide) (by decide) ?_
        exact st_out Cx hlt hU hNN hTw hi5 hjl hl hI hS Kn
      have n0 := lv_neT c0 (a := 0) (by decide)
      have n1 := lv_neT c1 (a := 1) (by decide)
      have n2 := lv_neT c2 (a := 2) (by decide)
      have n3 := lv_neT c3 (a := 3) (by decide)
      have n4 := lv_neT c4 (a := 4) (by decide)
      have n5 := lv_neT c5 (a := 5) (by decide)
      have n6 := lv_neT c6 (a := 6) (by decide)
      have n7 := lv_neT c7 (a := 7) (by decide)
      have n8 := lv_neT c8 (a := 8) (by decide)
      have n9 := lv_neT c9 (a := 9) (by decide)
      have n10 := lv_neT c10 (a := 10) (by decide)
      have n11 := lv_neT c11 (a := 11) (by decide)
      have n12 := lv_neT c12 (a := 12) (by decide)
      have n13 := lv_neT c13 (a := 13) (by decide)
      have n14 := lv_neT c14 (a := 14) (by decide)
      have n15 := lv_neT c15 (a := 15) (by decide)
      have n16 := lv_neT c16 (a := 16) (by decide)
      have n17 := lv_neT c17 (a := 17) (by decide)
      have n18 := lv_neT c18 (a := 18) (by decide)
      have n19 := lv_neT c19 (a := 19) (by decide)
      have n20 := lv_neT c20 (a := 20) (by decide)
      have n21 := lv_neT c21 (a := 21) (by decide)
      have n22 := lv_neT c22 (a := 22) (by decide)
      have n23 := lv_neT c23 (a := 23) (by decide)
      have n24 := lv_neT c24 (a := 24) (by decide)
      have n25 := lv_neT c25 (a := 25) (by decide)
      have n26 := lv_neT c26 (a := 26) (by decide)
      have n27 := lv_neT c27 (a := 27) (by decide)
      have n28 := lv_neT c28 (a := 28) (by decide)
      have n29 := lv_neT c29 (a := 29) (by decide)
      have n30 := lv_neT c30 (a := 30) (by decide)
      have n31 := lv_neT c31 (a := 31) (by decide)
      have n32 := lv_neT c32 (a := 32) (by decide)
      have n33 := lv_neT c33 (a := 33) (by decide)
      have n34 := lv_neT c34 (a := 34) (by decide)
      refine lv_tableOut (tgt := 1291) hx hb dL_law_40 (by omega) (by decide) ?_
      exact Kn _ _ _ _ ls (lwI_more hI) hS hl
