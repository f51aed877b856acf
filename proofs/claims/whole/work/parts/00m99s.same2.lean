/-! isSameTurned of the class. -/
theorem bn_qI (X : BP) : ∀ i, bn (qI i X).1 = bn X.1
  | 0 => rfl
  | i + 1 => bn_qI X i
theorem s_stL9 {X C : BP} {v2 cn : Int32} {ck cl : Nat → Int32} {dw dh dn : Int32} {dwl dt : Int64} {dk dp dl dg da dwd dhg : Nat → Int32} {ds : Nat → Int64} (hX : okX X) (hC : okX C) (y : chX C.1 C.2 dw dh dn dwl dt dk dp dl dg da dwd dhg ds) :
    ∀ (r i n : Nat) (w h : Int32) (wl t : Int64) (p g a wd hg : Nat → Int32) (s : Nat → Int64), i + r = 4 → r < n → chX (qI i X).1 (qI i X).2 w h cn wl t ck p cl g a wd hg s →
      (∃ S, f_Chart_isSameTurned_L9 v2 cn ck cl dw dh dn dwl dt dk dp dl dg da ds n (nI i) w h wl t p g a wd hg s = some (.inl S) ∧ ∃ j, i < j ∧ j ≤ 4 ∧ smX (qI j X) C) ∨
      (∃ w' h' wl' t' p' g' a' wd' hg' s', f_Chart_isSameTurned_L9 v2 cn ck cl dw dh dn dwl dt dk dp dl dg da ds n (nI i) w h wl t p g a wd hg s = some (.inr (w', h', wl', t', p', g', a', wd', hg', s')) ∧ chX (qI 4 X).1 (qI 4 X).2 w' h' cn wl' t' ck p' cl g' a' wd' hg' s' ∧ ∀ j, i < j → j ≤ 4 → ¬ smX (qI j X) C) := by
  intro r
  induction r with
  | zero =>
    intro i n w h wl t p g a wd hg s h1 h2 x
    obtain ⟨n, rfl⟩ : ∃ z, n = z + 1 := ⟨n - 1, by omega⟩
    have e : i = 4 := by omega
    subst e
    exact Or.inr ⟨w, h, wl, t, p, g, a, wd, hg, s, by rw [f_Chart_isSameTurned_L9, if_pos (show (4 : Int32) ≤ nI 4 by decide)], x, fun j h3 h4 => by omega⟩
  | succ r ih =>
    intro i n w h wl t p g a wd hg s h1 h2 x
    obtain ⟨n, rfl⟩ : ∃ z, n = z + 1 := ⟨n - 1, by omega⟩
    have ho := ok_qI hX i
    obtain ⟨wl', t', p', g', a', wd', hg', s', e1, e2⟩ := s_quarter ho.1 ho.2.1 x ho.2.2
    obtain ⟨b, b1, b2⟩ := s_isSame (X := qI (i + 1) X) (ok_qI hX (i + 1)) hC e2 y
    rw [f_Chart_isSameTurned_L9, if_neg (show ¬ (4 : Int32) ≤ nI i from nI_ge (b := 4) (by omega) (by decide)), ev_b _ e1, un10_ap, ev_b _ b1]
    cases b with
    | true =>
      rw [if_neg (show ¬ bI true = 0 by decide)]
      exact Or.inl ⟨_, rfl, i + 1, by omega, by omega, b2.mp rfl⟩
    | false =>
      have no : ¬ smX (qI (i + 1) X) C := fun z => by have := b2.mpr z; cases this
      rw [if_pos (show bI false = 0 by decide), ev_bnd, nI_1]
      rcases ih (i + 1) n _ _ _ _ _ _ _ _ _ _ (by omega) (by omega) e2 with ⟨S, s1, j, j1, j2, j3⟩ | ⟨w2, h2', wl2, t2, p2, g2, a2, wd2, hg2, s2, s1, s3, s4⟩
      · exact Or.inl ⟨S, s1, j, by omega, j2, j3⟩
      · refine Or.inr ⟨w2, h2', wl2, t2, p2, g2, a2, wd2, hg2, s2, s1, s3, fun j h3 h4 => ?_⟩
        by_cases z : j = i + 1
        · subst z; exact no
        · exact s4 j (by omega) h4
theorem s_isSameTurned {X C : BP} {cw chh cn : Int32} {cwl ct : Int64} {ck cp cl cg ca cwd chg : Nat → Int32} {cs : Nat → Int64} {dw dh dn : Int32} {dwl dt : Int64} {dk dp dl dg da dwd dhg : Nat → Int32} {ds : Nat → Int64} (hX : okX X) (hC : okX C) (x : chX X.1 X.2 cw chh cn cwl ct ck cp cl cg ca cwd chg cs) (y : chX C.1 C.2 dw dh dn dwl dt dk dp dl dg da dwd dhg ds) :
    ∃ b w' h' wl' t' p' g' a' wd' hg' s', f_Chart_isSameTurned cw chh cn cwl ct ck cp cl cg ca cwd chg cs dw dh dn dwl dt dk dp dl dg da ds = some (bI b, w', h', wl', t', p', g', a', wd', hg', s') ∧ (b = true ↔ orb X C) := by
  have h4 := ok_qI hX 4
  have hM := ok_tu (ov := true) h4
  have hm := ok_tu (ov := true) hX
  have s4 : smX (qI 4 X) X := q4_sm hX
  have sM : smX (tuX true (qI 4 X)) (tuX true X) := sm_tu h4 s4
  have or1 : ∀ j, 0 < j → j ≤ 4 → smX (qI j X) C → orb X C := by
    intro j j1 j2 q
    by_cases z : j = 4
    · subst z; exact ⟨0, by decide, Or.inl (sm_trans (sm_symm h4 s4) q)⟩
    · exact ⟨j, by omega, Or.inl q⟩
  have or2 : ∀ j, 0 < j → j ≤ 4 → smX (qI j (tuX true (qI 4 X))) C → orb X C := by
    intro j j1 j2 q
    have q' : smX (qI j (tuX true X)) C := sm_trans (sm_symm (ok_qI hM j) (sm_qI hM sM j)) q
    by_cases z : j = 4
    · subst z; exact ⟨0, by decide, Or.inr (sm_trans (sm_symm (ok_qI hm 4) (q4_sm hm)) q')⟩
    · exact ⟨j, by omega, Or.inr q'⟩
  have no : (∀ j, 0 < j → j ≤ 4 → ¬ smX (qI j X) C) → (∀ j, 0 < j → j ≤ 4 → ¬ smX (qI j (tuX true (qI 4 X))) C) → ¬ orb X C := by
    rintro n1 n2 ⟨i, hi, q | q⟩
    · by_cases z : i = 0
      · subst z; exact n1 4 (by decide) (by decide) (sm_trans s4 q)
      · exact n1 i (by omega) (by omega) q
    · have q' : smX (qI i (tuX true (qI 4 X))) C := sm_trans (sm_qI hM sM i) q
      by_cases z : i = 0
      · subst z; exact n2 4 (by decide) (by decide) (sm_trans (q4_sm hM) q')
      · exact n2 i (by omega) (by omega) q'
  unfold f_Chart_isSameTurned
  have jn : jN = 1999997 + 3 := rfl
  rcases s_stL9 (v2 := 0) hX hC y 4 0 jN cw chh cwl ct cp cg ca cwd chg cs (by omega) (by decide) x with ⟨S, e1, j, j1, j2, j3⟩ | ⟨w1, h1, wl1, t1, p1, g1, a1, wd1, hg1, s1, e1, e2, e3⟩
  · obtain ⟨q1, q2, q3, q4, q5, q6, q7, q8, q9, q10⟩ := S
    have l2 : f_Chart_isSameTurned_L2 cn ck cl dw dh dn dwl dt dk dp dl dg da ds (1999999 + 1) 0 cw chh cwl ct cp cg ca cwd chg cs = some (.inl (q1, q2, q3, q4, q5, q6, q7, q8, q9, q10)) := by
      rw [f_Chart_isSameTurned_L2, if_neg (show ¬ (2 : Int32) ≤ 0 by decide), ev_b (x := f_Chart_isSameTurned_L9 0 cn ck cl dw dh dn dwl dt dk dp dl dg da ds jN 0 cw chh cwl ct cp cg ca cwd chg cs) _ e1, jsel_l, un10_ap]
    exact ⟨true, q1, q2, q3, q4, q5, q6, q7, q8, q9, q10, by rw [ev_b (x := f_Chart_isSameTurned_L2 cn ck cl dw dh dn dwl dt dk dp dl dg da ds jN 0 cw chh cwl ct cp cg ca cwd chg cs) _ l2]; rfl, fun _ => or1 j j1 j2 j3, fun _ => rfl⟩
  · obtain ⟨wl2, t2, p2, g2, m1, m2⟩ := s_mirror h4.1 h4.2.1 e2 h4.2.2
    rcases s_stL9 (X := tuX true (qI 4 X)) (v2 := 1) hM hC y 4 0 jN w1 h1 wl2 t2 p2 g2 a1 wd1 hg1 s1 (by omega) (by decide) m2 with ⟨S, e4, j, j1, j2, j3⟩ | ⟨w3, h3, wl3, t3, p3, g3, a3, wd3, hg3, s3, e4, e5, e6⟩
    · obtain ⟨q1, q2, q3, q4, q5, q6, q7, q8, q9, q10⟩ := S
      have l2 : f_Chart_isSameTurned_L2 cn ck cl dw dh dn dwl dt dk dp dl dg da ds (1999998 + 1 + 1) 0 cw chh cwl ct cp cg ca cwd chg cs = some (.inl (q1, q2, q3, q4, q5, q6, q7, q8, q9, q10)) := by
        rw [f_Chart_isSameTurned_L2, if_neg (show ¬ (2 : Int32) ≤ 0 by decide), ev_b (x := f_Chart_isSameTurned_L9 0 cn ck cl dw dh dn dwl dt dk dp dl dg da ds jN 0 cw chh cwl ct cp cg ca cwd chg cs) _ e1, jsel_r, un10_ap, ev_b _ m1, un4_ap, ev_bnd, f_Chart_isSameTurned_L2, if_neg (show ¬ (2 : Int32) ≤ 0 + 1 by decide), ev_b (x := f_Chart_isSameTurned_L9 (0 + 1) cn ck cl dw dh dn dwl dt dk dp dl dg da ds jN 0 w1 h1 wl2 t2 p2 g2 a1 wd1 hg1 s1) _ e4, jsel_l, un10_ap]
      exact ⟨true, q1, q2, q3, q4, q5, q6, q7, q8, q9, q10, by rw [ev_b (x := f_Chart_isSameTurned_L2 cn ck cl dw dh dn dwl dt dk dp dl dg da ds jN 0 cw chh cwl ct cp cg ca cwd chg cs) _ l2]; rfl, fun _ => or2 j j1 j2 j3, fun _ => rfl⟩
    · have h44 := ok_qI hM 4
      obtain ⟨wl5, t5, p5, g5, m3, m4⟩ := s_mirror h44.1 h44.2.1 e5 h44.2.2
      have l2 : f_Chart_isSameTurned_L2 cn ck cl dw dh dn dwl dt dk dp dl dg da ds (1999997 + 1 + 1 + 1) 0 cw chh cwl ct cp cg ca cwd chg cs = some (.inr (w3, h3, wl5, t5, p5, g5, a3, wd3, hg3, s3)) := by
        rw [f_Chart_isSameTurned_L2, if_neg (show ¬ (2 : Int32) ≤ 0 by decide), ev_b (x := f_Chart_isSameTurned_L9 0 cn ck cl dw dh dn dwl dt dk dp dl dg da ds jN 0 cw chh cwl ct cp cg ca cwd chg cs) _ e1, jsel_r, un10_ap, ev_b _ m1, un4_ap, ev_bnd, f_Chart_isSameTurned_L2, if_neg (show ¬ (2 : Int32) ≤ 0 + 1 by decide), ev_b (x := f_Chart_isSameTurned_L9 (0 + 1) cn ck cl dw dh dn dwl dt dk dp dl dg da ds jN 0 w1 h1 wl2 t2 p2 g2 a1 wd1 hg1 s1) _ e4, jsel_r, un10_ap, ev_b _ m3, un4_ap, ev_bnd, f_Chart_isSameTurned_L2, if_pos (show (2 : Int32) ≤ 0 + 1 + 1 by decide)]
      exact ⟨false, w3, h3, wl5, t5, p5, g5, a3, wd3, hg3, s3, by rw [ev_b (x := f_Chart_isSameTurned_L2 cn ck cl dw dh dn dwl dt dk dp dl dg da ds jN 0 cw chh cwl ct cp cg ca cwd chg cs) _ l2]; rfl, fun z => by (cases z), fun z => absurd z (no e3 e6)⟩
