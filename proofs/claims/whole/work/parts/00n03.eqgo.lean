/-! far and go of both sides. -/
theorem eq_far_11 {X : BP} {cw chh cn : Int32} {cwl ct : Int64} {ck cp cl cg ca cwd chg : Nat → Int32} {cs : Nat → Int64} {khas kw kh kn : Int32} {kwl kk kat ks ky kg : Nat → Int32} (hX : okX X) (hc : chX X.1 X.2 cw chh cn cwl ct ck cp cl cg ca cwd chg cs) (hr : rfX X.1 X.2 khas kw kh kn kwl kk kat ks ky kg) (st st2 th sn ed : Int32) (fo qd sp w0 h0 n0 : Int32) (wl0 t0 : Int64) (k0 p0 l0 g0 a0 wd0 hg0 : Nat → Int32) (s0 lo hi : Nat → Int64) (sl sf mv di qu : Nat → Int32) (hs : schI fo sl sf) (kpl khd kch kdp kpr kbb kby kbs kf kfe ked keb kwho khe : Nat → Int32) :
    ∃ (ans st' : Int32) (fo' qd' sp' w0' h0' n0' : Int32) (wl0' t0' : Int64) (k0' p0' l0' g0' a0' wd0' hg0' : Nat → Int32) (s0' lo' hi' : Nat → Int64) (sl' sf' mv' di' qu' : Nat → Int32) (sn' ed' : Int32) (kpl' khd' kch' kdp' kpr' kbb' kby' kbs' kf' kfe' ked' keb' kwho' khe' : Nat → Int32), f_BargeBasin_far_search11 st cw chh cn cwl ct ck cp cl cg ca cwd chg cs fo qd sp w0 h0 n0 wl0 t0 k0 p0 l0 g0 a0 wd0 hg0 s0 lo hi sl sf mv di qu = some (ans, st', fo', qd', sp', w0', h0', n0', wl0', t0', k0', p0', l0', g0', a0', wd0', hg0', s0', lo', hi', sl', sf', mv', di', qu') ∧ f_BargeBasinModel_far st2 th khas kw kh kn sn ed kwl kk kat ks ky kg kpl khd kch kdp kpr kbb kby kbs kf kfe ked keb kwho khe = some (ans, st', 0, sn', ed', kpl', khd', kch', kdp', kpr', kbb', kby', kbs', kf', kfe', ked', keb', kwho', khe') ∧ schI fo' sl' sf' := by
  obtain ⟨r1, r2, r3, r4, r5, r6, r7, r8⟩ := hr
  subst r1; subst r2; subst r3; subst r4
  obtain ⟨a, s, fo', qd', sp', w0', h0', n0', wl0', t0', k0', p0', l0', g0', a0', wd0', hg0', s0', lo', hi', sl', sf', mv', di', qu', e1, sc, f1⟩ := s_far_11 hX.1 hX.2.1 hc hs qd sp w0 h0 n0 wl0 t0 k0 p0 l0 g0 a0 wd0 hg0 s0 lo hi mv di qu st
  obtain ⟨a', s', sn', ed', kpl', khd', kch', kdp', kpr', kbb', kby', kbs', kf', kfe', ked', keb', kwho', khe', e2, f2⟩ := m_far hX.1 hX.2.1 r6 r5 r7 r8 st2 th sn ed kpl khd kch kdp kpr kbb kby kbs kf kfe ked keb kwho khe
  obtain ⟨ea, es⟩ := far_u f1 f2
  subst ea; subst es
  exact ⟨a, s, fo', qd', sp', w0', h0', n0', wl0', t0', k0', p0', l0', g0', a0', wd0', hg0', s0', lo', hi', sl', sf', mv', di', qu', sn', ed', kpl', khd', kch', kdp', kpr', kbb', kby', kbs', kf', kfe', ked', keb', kwho', khe', e1, e2, sc⟩
theorem eq_go_11 {X : BP} {cw chh cn : Int32} {cwl ct : Int64} {ck cp cl cg ca cwd chg : Nat → Int32} {cs : Nat → Int64} {khas kw kh kn : Int32} {kwl kk kat ks ky kg : Nat → Int32} {lf ld lu um rm : Int32} {lm ub uf ut rb rf rt : Nat → Int32} (hX : okX X) (hc : chX X.1 X.2 cw chh cn cwl ct ck cp cl cg ca cwd chg cs) (hr : rfX X.1 X.2 khas kw kh kn kwl kk kat ks ky kg) (hl : lgR X.1 X.2 lf ld lu lm um rm ub uf ut rb rf rt) (st st2 th sn ed : Int32) (fo qd sp w0 h0 n0 : Int32) (wl0 t0 : Int64) (k0 p0 l0 g0 a0 wd0 hg0 : Nat → Int32) (s0 lo hi : Nat → Int64) (sl sf mv di qu : Nat → Int32) (hs : schI fo sl sf) (kpl khd kch kdp kpr kbb kby kbs kf kfe ked keb kwho khe : Nat → Int32) :
    ∃ (Q : Nat → Nat) (ans st' : Int32) (ct' : Int64) (cp' : Nat → Int32) (ld' lu' : Int32) (fo' qd' sp' w0' h0' n0' : Int32) (wl0' t0' : Int64) (k0' p0' l0' g0' a0' wd0' hg0' : Nat → Int32) (s0' lo' hi' : Nat → Int64) (sl' sf' mv' di' qu' : Nat → Int32) (um' rm' sn' ed' : Int32) (kat' kpl' khd' kch' kdp' kpr' kbb' kby' kbs' kf' kfe' ked' keb' kwho' khe' : Nat → Int32), f_BargeBasin_go_search11 st cw chh cn cwl ct ck cp cl cg ca cwd chg cs ld lu fo qd sp w0 h0 n0 wl0 t0 k0 p0 l0 g0 a0 wd0 hg0 s0 lo hi sl sf mv di qu = some (ans, st', ct', cp', ld', lu', fo', qd', sp', w0', h0', n0', wl0', t0', k0', p0', l0', g0', a0', wd0', hg0', s0', lo', hi', sl', sf', mv', di', qu') ∧ f_BargeBasinModel_go st2 th khas kw kh kn um rm sn ed kwl kk kat ks ky kg kpl khd kch kdp kpr kbb kby kbs kf kfe ked keb kwho khe = some (ans, st', 0, um', rm', sn', ed', kat', kpl', khd', kch', kdp', kpr', kbb', kby', kbs', kf', kfe', ked', keb', kwho', khe') ∧ okX (X.1, Q) ∧ chX X.1 Q cw chh cn cwl ct' ck cp' cl cg ca cwd chg cs ∧ rfX X.1 Q khas kw kh kn kwl kk kat' ks ky kg ∧ lgR X.1 Q lf ld' lu' lm um' rm' ub uf ut rb rf rt ∧ schI fo' sl' sf' := by
  have hr0 := hr
  have hc0 := hc
  obtain ⟨r1, r2, r3, r4, r5, r6, r7, r8⟩ := hr
  obtain ⟨x1, x2, x3, x4, x5, x6, x7, x8, x9⟩ := hc
  subst r1; subst r2; subst r3; subst r4
  obtain ⟨a, s, ct', cp', ld', lu', fo', qd', sp', w0', h0', n0', wl0', t0', k0', p0', l0', g0', a0', wd0', hg0', s0', lo', hi', sl', sf', mv', di', qu', e1, sc, f1⟩ := s_go_11 hX.1 hX.2.1 hc0 hs qd sp w0 h0 n0 wl0 t0 k0 p0 l0 g0 a0 wd0 hg0 s0 lo hi mv di qu st ld lu
  obtain ⟨a', s', um', rm', sn', ed', kat', kpl', khd', kch', kdp', kpr', kbb', kby', kbs', kf', kfe', ked', keb', kwho', khe', e2, f2⟩ := m_go hX.1 hX.2.1 r6 r5 r7 r8 st2 th um rm sn ed kpl khd kch kdp kpr kbb kby kbs kf kfe ked keb kwho khe
  rcases f1 with ⟨t, p1, p2, p3, p4, p5, p6, p7, p8⟩ | ⟨p0, b, k, p1, p3, p4, p5, p6, p7, p8⟩ <;> rcases f2 with ⟨u, q1, q2, q3, q4, q5, q6, q7⟩ | ⟨q0, c, j, q1, q3, q4, q5, q6, q7⟩
  · have es := (far_u p1 q1).2
    subst es; subst p3; subst p4; subst p5; subst p6; subst p7; subst p8; subst q3; subst q4; subst q5; subst q6; subst q7
    exact ⟨X.2, 0, _, ct', cp', ld', lu', fo', qd', sp', w0', h0', n0', wl0', t0', k0', p0', l0', g0', a0', wd0', hg0', s0', lo', hi', sl', sf', mv', di', qu', um', rm', sn', ed', kat', kpl', khd', kch', kdp', kpr', kbb', kby', kbs', kf', kfe', ked', keb', kwho', khe', e1, e2, hX, hc0, hr0, hl, sc⟩
  · exact absurd (far_no p1 p2 q0 q1) id
  · exact absurd (far_no q1 q2 p0 p1) id
  · have eb := (bst_u p1 q1).1
    subst eb
    have og := ok_gt hX p0 p1
    generalize gt (FL X.1 7 X.2) b = Q at *
    subst p3; subst p4; subst p5; subst p6; subst q3; subst q4; subst q5; subst q6
    exact ⟨Q, 1, 0, ct', cp', 0, 0, fo', qd', sp', w0', h0', n0', wl0', t0', k0', p0', l0', g0', a0', wd0', hg0', s0', lo', hi', sl', sf', mv', di', qu', 0, 0, sn', ed', kat', kpl', khd', kch', kdp', kpr', kbb', kby', kbs', kf', kfe', ked', keb', kwho', khe', e1, e2, og, ⟨x1, x2, x3, x4, p7, x6, p8, x8, x9⟩, ⟨rfl, rfl, rfl, rfl, r5, r6, q7, r8⟩, lgR_forget hl og.2.1, sc⟩
theorem eq_far_01 {X : BP} {cw chh cn : Int32} {cwl ct : Int64} {ck cp cl cg ca cwd chg : Nat → Int32} {cs : Nat → Int64} {khas kw kh kn : Int32} {kwl kk kat ks ky kg : Nat → Int32} (hX : okX X) (hc : chX X.1 X.2 cw chh cn cwl ct ck cp cl cg ca cwd chg cs) (hr : rfX X.1 X.2 khas kw kh kn kwl kk kat ks ky kg) (st st2 th sn ed : Int32) (kpl khd kch kdp kpr kbb kby kbs kf kfe ked keb kwho khe : Nat → Int32) :
    ∃ (ans st' : Int32) (fo' qd' sp' w0' h0' n0' : Int32) (wl0' t0' : Int64) (k0' p0' l0' g0' a0' wd0' hg0' : Nat → Int32) (s0' lo' hi' : Nat → Int64) (sl' sf' mv' di' qu' : Nat → Int32) (sn' ed' : Int32) (kpl' khd' kch' kdp' kpr' kbb' kby' kbs' kf' kfe' ked' keb' kwho' khe' : Nat → Int32), f_BargeBasin_far_search01 st cw chh cn cwl ct ck cp cl cg ca cwd chg cs = some (ans, st', fo', qd', sp', w0', h0', n0', wl0', t0', k0', p0', l0', g0', a0', wd0', hg0', s0', lo', hi', sl', sf', mv', di', qu') ∧ f_BargeBasinModel_far st2 th khas kw kh kn sn ed kwl kk kat ks ky kg kpl khd kch kdp kpr kbb kby kbs kf kfe ked keb kwho khe = some (ans, st', 0, sn', ed', kpl', khd', kch', kdp', kpr', kbb', kby', kbs', kf', kfe', ked', keb', kwho', khe') ∧ schI fo' sl' sf' := by
  obtain ⟨r1, r2, r3, r4, r5, r6, r7, r8⟩ := hr
  subst r1; subst r2; subst r3; subst r4
  obtain ⟨a, s, fo', qd', sp', w0', h0', n0', wl0', t0', k0', p0', l0', g0', a0', wd0', hg0', s0', lo', hi', sl', sf', mv', di', qu', e1, sc, f1⟩ := s_far_01 hX.1 hX.2.1 hc st
  obtain ⟨a', s', sn', ed', kpl', khd', kch', kdp', kpr', kbb', kby', kbs', kf', kfe', ked', keb', kwho', khe', e2, f2⟩ := m_far hX.1 hX.2.1 r6 r5 r7 r8 st2 th sn ed kpl khd kch kdp kpr kbb kby kbs kf kfe ked keb kwho khe
  obtain ⟨ea, es⟩ := far_u f1 f2
  subst ea; subst es
  exact ⟨a, s, fo', qd', sp', w0', h0', n0', wl0', t0', k0', p0', l0', g0', a0', wd0', hg0', s0', lo', hi', sl', sf', mv', di', qu', sn', ed', kpl', khd', kch', kdp', kpr', kbb', kby', kbs', kf', kfe', ked', keb', kwho', khe', e1, e2, sc⟩
theorem eq_go_01 {X : BP} {cw chh cn : Int32} {cwl ct : Int64} {ck cp cl cg ca cwd chg : Nat → Int32} {cs : Nat → Int64} {khas kw kh kn : Int32} {kwl kk kat ks ky kg : Nat → Int32} {lf ld lu um rm : Int32} {lm ub uf ut rb rf rt : Nat → Int32} (hX : okX X) (hc : chX X.1 X.2 cw chh cn cwl ct ck cp cl cg ca cwd chg cs) (hr : rfX X.1 X.2 khas kw kh kn kwl kk kat ks ky kg) (hl : lgR X.1 X.2 lf ld lu lm um rm ub uf ut rb rf rt) (st st2 th sn ed : Int32) (kpl khd kch kdp kpr kbb kby kbs kf kfe ked keb kwho khe : Nat → Int32) :
    ∃ (Q : Nat → Nat) (ans st' : Int32) (ct' : Int64) (cp' : Nat → Int32) (ld' lu' : Int32) (fo' qd' sp' w0' h0' n0' : Int32) (wl0' t0' : Int64) (k0' p0' l0' g0' a0' wd0' hg0' : Nat → Int32) (s0' lo' hi' : Nat → Int64) (sl' sf' mv' di' qu' : Nat → Int32) (um' rm' sn' ed' : Int32) (kat' kpl' khd' kch' kdp' kpr' kbb' kby' kbs' kf' kfe' ked' keb' kwho' khe' : Nat → Int32), f_BargeBasin_go_search01 st cw chh cn cwl ct ck cp cl cg ca cwd chg cs ld lu = some (ans, st', ct', cp', ld', lu', fo', qd', sp', w0', h0', n0', wl0', t0', k0', p0', l0', g0', a0', wd0', hg0', s0', lo', hi', sl', sf', mv', di', qu') ∧ f_BargeBasinModel_go st2 th khas kw kh kn um rm sn ed kwl kk kat ks ky kg kpl khd kch kdp kpr kbb kby kbs kf kfe ked keb kwho khe = some (ans, st', 0, um', rm', sn', ed', kat', kpl', khd', kch', kdp', kpr', kbb', kby', kbs', kf', kfe', ked', keb', kwho', khe') ∧ okX (X.1, Q) ∧ chX X.1 Q cw chh cn cwl ct' ck cp' cl cg ca cwd chg cs ∧ rfX X.1 Q khas kw kh kn kwl kk kat' ks ky kg ∧ lgR X.1 Q lf ld' lu' lm um' rm' ub uf ut rb rf rt ∧ schI fo' sl' sf' := by
  have hr0 := hr
  have hc0 := hc
  obtain ⟨r1, r2, r3, r4, r5, r6, r7, r8⟩ := hr
  obtain ⟨x1, x2, x3, x4, x5, x6, x7, x8, x9⟩ := hc
  subst r1; subst r2; subst r3; subst r4
  obtain ⟨a, s, ct', cp', ld', lu', fo', qd', sp', w0', h0', n0', wl0', t0', k0', p0', l0', g0', a0', wd0', hg0', s0', lo', hi', sl', sf', mv', di', qu', e1, sc, f1⟩ := s_go_01 hX.1 hX.2.1 hc0 st ld lu
  obtain ⟨a', s', um', rm', sn', ed', kat', kpl', khd', kch', kdp', kpr', kbb', kby', kbs', kf', kfe', ked', keb', kwho', khe', e2, f2⟩ := m_go hX.1 hX.2.1 r6 r5 r7 r8 st2 th um rm sn ed kpl khd kch kdp kpr kbb kby kbs kf kfe ked keb kwho khe
  rcases f1 with ⟨t, p1, p2, p3, p4, p5, p6, p7, p8⟩ | ⟨p0, b, k, p1, p3, p4, p5, p6, p7, p8⟩ <;> rcases f2 with ⟨u, q1, q2, q3, q4, q5, q6, q7⟩ | ⟨q0, c, j, q1, q3, q4, q5, q6, q7⟩
  · have es := (far_u p1 q1).2
    subst es; subst p3; subst p4; subst p5; subst p6; subst p7; subst p8; subst q3; subst q4; subst q5; subst q6; subst q7
    exact ⟨X.2, 0, _, ct', cp', ld', lu', fo', qd', sp', w0', h0', n0', wl0', t0', k0', p0', l0', g0', a0', wd0', hg0', s0', lo', hi', sl', sf', mv', di', qu', um', rm', sn', ed', kat', kpl', khd', kch', kdp', kpr', kbb', kby', kbs', kf', kfe', ked', keb', kwho', khe', e1, e2, hX, hc0, hr0, hl, sc⟩
  · exact absurd (far_no p1 p2 q0 q1) id
  · exact absurd (far_no q1 q2 p0 p1) id
  · have eb := (bst_u p1 q1).1
    subst eb
    have og := ok_gt hX p0 p1
    generalize gt (FL X.1 7 X.2) b = Q at *
    subst p3; subst p4; subst p5; subst p6; subst q3; subst q4; subst q5; subst q6
    exact ⟨Q, 1, 0, ct', cp', 0, 0, fo', qd', sp', w0', h0', n0', wl0', t0', k0', p0', l0', g0', a0', wd0', hg0', s0', lo', hi', sl', sf', mv', di', qu', 0, 0, sn', ed', kat', kpl', khd', kch', kdp', kpr', kbb', kby', kbs', kf', kfe', ked', keb', kwho', khe', e1, e2, og, ⟨x1, x2, x3, x4, p7, x6, p8, x8, x9⟩, ⟨rfl, rfl, rfl, rfl, r5, r6, q7, r8⟩, lgR_forget hl og.2.1, sc⟩
