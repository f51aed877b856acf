/-! Each word has one answer: so both sides' answers are the same. -/
theorem far_u {B : Bas} {P : Nat → Nat} {a s a' s' : Int32} (h1 : farX B P a s) (h2 : farX B P a' s') : a = a' ∧ s = s' := by
  rcases h1 with ⟨p1, p2, p3⟩ | ⟨p1, p2, p3, p4⟩ | ⟨p1, b, k, p2, p3, p4⟩ <;> rcases h2 with ⟨q1, q2, q3⟩ | ⟨q1, q2, q3, q4⟩ | ⟨q1, c, j, q2, q3, q4⟩
  · exact ⟨p2.trans q2.symm, p3.trans q3.symm⟩
  · omega
  · omega
  · omega
  · exact ⟨p3.trans q3.symm, p4.trans q4.symm⟩
  · obtain ⟨E, f1, f2, f3⟩ := q2
    rw [(bst_none f1).mpr p2] at f2; cases f2
  · omega
  · obtain ⟨E, f1, f2, f3⟩ := p2
    rw [(bst_none f1).mpr q2] at f2; cases f2
  · rw [p3, q3, p4, q4, (bst_u p2 q2).2]; exact ⟨rfl, rfl⟩
theorem far_no {B : Bas} {P : Nat → Nat} {s : Int32} {b k : Nat} (h1 : farX B P (-1) s) (hs : s ≠ 0) (hl : (FL B 7 P).length ≤ 6000) (hb : bstX B P b k) : False := by
  have := far_u h1 (Or.inr (Or.inr ⟨hl, b, k, hb, rfl, rfl⟩) : farX B P (nI k) 0)
  exact hs this.2
theorem reach_u {B : Bas} {P : Nat → Nat} {a s a' s' : Int32} (h1 : reachX B P a s) (h2 : reachX B P a' s') : a = a' ∧ s = s' := by
  rcases h1 with ⟨p1, p2, p3⟩ | ⟨p1, p2, p3⟩ <;> rcases h2 with ⟨q1, q2, q3⟩ | ⟨q1, q2, q3⟩
  · exact ⟨p2.trans q2.symm, p3.trans q3.symm⟩
  · omega
  · omega
  · exact ⟨p2.trans q2.symm, p3.trans q3.symm⟩
theorem wyX_u {B : Bas} {P : Nat → Nat} {but : Option Nat} {n m : Int64} (h1 : wyX B but P n) (h2 : wyX B but P m) : n = m := by
  rcases h1 with ⟨p1, p2⟩ | ⟨p1, p2, p3⟩ | ⟨p1, k, p2, p3⟩ <;> rcases h2 with ⟨q1, q2⟩ | ⟨q1, q2, q3⟩ | ⟨q1, j, q2, q3⟩
  · exact p2.trans q2.symm
  · omega
  · omega
  · omega
  · exact p3.trans q3.symm
  · exact absurd q2.1 (p2 j)
  · omega
  · exact absurd p2.1 (q2 k)
  · rw [p3, q3, isD_u p2 q2]
theorem all_u {B : Bas} {P : Nat → Nat} {a a' : Int64} {s s' : Int32} (h1 : allX B P a s) (h2 : allX B P a' s') : a = a' ∧ s = s' := by
  obtain ⟨n, w1, p⟩ := h1
  obtain ⟨m, w2, q⟩ := h2
  have e := wyX_u w1 w2
  subst e
  rcases p with ⟨p1, p2, p3⟩ | ⟨p1, p2, p3, p4⟩ | ⟨p1, p2, p3, p4⟩ <;> rcases q with ⟨q1, q2, q3⟩ | ⟨q1, q2, q3, q4⟩ | ⟨q1, q2, q3, q4⟩
  · exact ⟨p2.trans q2.symm, p3.trans q3.symm⟩
  · exact absurd p1 q1
  · exact absurd p1 q1
  · exact absurd q1 p1
  · exact ⟨p3.trans q3.symm, p4.trans q4.symm⟩
  · exact absurd p2 q2
  · exact absurd q1 p1
  · exact absurd q2 p2
  · exact ⟨p3.trans q3.symm, p4.trans q4.symm⟩
theorem must_u {B : Bas} {P : Nat → Nat} {b : Nat} {a a' s s' : Int32} (h1 : mustX B b P a s) (h2 : mustX B b P a' s') : a = a' ∧ s = s' := by
  obtain ⟨n, w1, p⟩ := h1
  obtain ⟨m, w2, q⟩ := h2
  have e := wyX_u w1 w2
  subst e
  rcases p with ⟨p1, p2, p3⟩ | ⟨p1, p2, p3, p4⟩ | ⟨p1, p2, p3, p4⟩ <;> rcases q with ⟨q1, q2, q3⟩ | ⟨q1, q2, q3, q4⟩ | ⟨q1, q2, q3, q4⟩
  · exact ⟨p2.trans q2.symm, p3.trans q3.symm⟩
  · exact absurd p1 q1
  · exact absurd p1 q1
  · exact absurd q1 p1
  · exact ⟨p3.trans q3.symm, p4.trans q4.symm⟩
  · exact absurd p2 q2
  · exact absurd q1 p1
  · exact absurd q2 p2
  · exact ⟨p3.trans q3.symm, p4.trans q4.symm⟩
theorem pl_u {B : Bas} {P : Nat → Nat} {most : Nat} {a a' s s' : Int32} {n n' : Option (List Nat)} (h1 : plX B most P a s n) (h2 : plX B most P a' s' n') : a = a' ∧ s = s' ∧ n = n' := by
  rcases h1 with ⟨p1, p2, p3, p4⟩ | ⟨p1, p2, p3, p4, p5⟩ | ⟨p1, k, cs, p2, p3, p4, p5, p6, p7⟩ <;> rcases h2 with ⟨q1, q2, q3, q4⟩ | ⟨q1, q2, q3, q4, q5⟩ | ⟨q1, j, ds, q2, q3, q4, q5, q6, q7⟩
  · exact ⟨p2.trans q2.symm, p3.trans q3.symm, p4.trans q4.symm⟩
  · omega
  · omega
  · omega
  · exact ⟨p3.trans q3.symm, p4.trans q4.symm, p5.trans q5.symm⟩
  · exact absurd q2.1 (p2 j)
  · omega
  · exact absurd p2.1 (q2 k)
  · have e := isD_u p2 q2
    subst e
    have f := gPath_u p3 q3
    subst f
    exact ⟨p5.trans q5.symm, p6.trans q6.symm, p7.trans q7.symm⟩
/-- go: the stand that both sides lay out -/
theorem ok_gt {X : BP} {b k : Nat} (h : okX X) (hl : (FL X.1 7 X.2).length ≤ 6000) (hb : bstX X.1 X.2 b k) : okX (X.1, gt (FL X.1 7 X.2) b) := by
  obtain ⟨cwl, ct, hc⟩ := chX_ex X.1 X.2
  obtain ⟨r, f', qd', sp', w', h', n', wl', t', k', p', l', g', a', wd', hg', s', lo', hi', sl', fo', mv', di', qu', e, sc, q⟩ := s_fault11 (sg := false) (all := true) h.1 h.2.1 hc (most := 7) rfl schI_0 0 0 0 0 0 0 0 (fun _ => 0) (fun _ => 0) (fun _ => 0) (fun _ => 0) (fun _ => 0) (fun _ => 0) (fun _ => 0) (fun _ => 0) (fun _ => 0) (fun _ => 0) (fun _ => 0) (fun _ => 0) (fun _ => 0)
  rcases q with ⟨q1, -⟩ | ⟨D, sx, -⟩
  · omega
  · obtain ⟨E, d1, d2, d3⟩ := hb
    have lt := (bestO_lt d2).1
    have hs : stC X.1 (gt (FL X.1 7 X.2) b) := by
      rw [gt_at lt]
      exact sx.2.2.2.2.2.1.2.1 _ (List.getElem_mem lt)
    generalize gt (FL X.1 7 X.2) b = Q at hs
    exact ⟨h.1, hs, h.2.2⟩
/-- trim: both sides leave the same basin -/
theorem tr_u {X Z Z' : BP} {least least' v2 v3 v2' v3' b b' : Nat} (hb : bstX X.1 X.2 b least) (hb' : bstX X.1 X.2 b' least') (h : trX X least Z v2 v3) (h' : trX X least' Z' v2' v3') : Z = Z' ∧ v2 = v2' ∧ v3 = v3' := by
  have e := (bst_u hb hb').2
  subst e
  obtain ⟨z1, z2, z3⟩ := h
  obtain ⟨y1, y2, y3⟩ := h'
  have ez : Z = Z' := z1.trans y1.symm
  subst ez
  exact ⟨rfl, by omega, by omega⟩
theorem tr_ok {X Z : BP} {least v2 v3 : Nat} (hX : okX X) (h : trX X least Z v2 v3) : okX Z ∧ bw Z.1 = bw X.1 ∧ bh Z.1 = bh X.1 ∧ (v3 = 0 → bwl Z.1 = bwl X.1) := by
  obtain ⟨z1, z2, z3⟩ := h
  obtain ⟨o1, o2, o3⟩ := ok_bT (least := least) (bn X.1) X (Nat.le_refl _) hX
  obtain ⟨w1, w2, w3, w4, w5, w6⟩ := wT_ok (least := least) o1 64 (Nat.le_refl _)
  generalize wT least 64 (bT least (bn X.1) X) = W at *
  subst z1
  refine ⟨w1, w2.trans o2.1, w3.trans o2.2.1, fun e => ?_⟩
  have := w6 (by rw [o2.2.2]; omega)
  rw [this]
  exact o2.2.2
