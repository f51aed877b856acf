/-! fewest and fewestSteps of both sides. -/
theorem pl_400 {X : BP} {most : Nat} {a s : Int32} {l : List Nat} (h : okX X) (hp : plX X.1 most X.2 a s (some l)) : ∀ c, c ∈ l → c < 400 := by
  rcases hp with ⟨-, -, -, e⟩ | ⟨-, -, -, -, e⟩ | ⟨-, k, cs, -, g, -, -, -, e⟩
  · cases e
  · cases e
  · cases e; exact gPath_400 h.1 g
theorem eq_fewest_1_11 {X : BP} {cw chh cn : Int32} {cwl ct : Int64} {ck cp cl cg ca cwd chg : Nat → Int32} {cs : Nat → Int64} {khas kw kh kn : Int32} {kwl kk kat ks ky kg : Nat → Int32} {l : List Nat} {psz khp kpm : Int32} {pm pb pw pt : Nat → Int32} (hX : okX X) (hc : chX X.1 X.2 cw chh cn cwl ct ck cp cl cg ca cwd chg cs) (hr : rfX X.1 X.2 khas kw kh kn kwl kk kat ks ky kg) (hp : plR l psz pm khp kpm pb pw pt) (st st2 th sn ed : Int32) (fo qd sp w0 h0 n0 : Int32) (wl0 t0 : Int64) (k0 p0 l0 g0 a0 wd0 hg0 : Nat → Int32) (s0 lo hi : Nat → Int64) (sl sf mv di qu : Nat → Int32) (hs : schI fo sl sf) (kpl khd kch kdp kpr kbb kby kbs kfe ked keb kwho khe : Nat → Int32) :
    ∃ (ans st' : Int32) (fo' qd' sp' w0' h0' n0' : Int32) (wl0' t0' : Int64) (k0' p0' l0' g0' a0' wd0' hg0' : Nat → Int32) (s0' lo' hi' : Nat → Int64) (sl' sf' mv' di' qu' : Nat → Int32) (psz' : Int32) (pm' : Nat → Int32) (khp' kpm' sn' ed' : Int32) (pb' pw' pt' kpl' khd' kch' kdp' kpr' kbb' kby' kbs' kfe' ked' keb' kwho' khe' : Nat → Int32) (l' : List Nat), f_BargeBasin_fewest_plan11_search11 st cw chh cn cwl ct ck cp cl cg ca cwd chg cs fo qd sp w0 h0 n0 wl0 t0 k0 p0 l0 g0 a0 wd0 hg0 s0 lo hi sl sf mv di qu psz pm = some (ans, st', fo', qd', sp', w0', h0', n0', wl0', t0', k0', p0', l0', g0', a0', wd0', hg0', s0', lo', hi', sl', sf', mv', di', qu', psz', pm') ∧ f_BargeBasinModel_fewest st2 th khas kw kh kn khp kpm sn ed kwl kk kat ks ky kg pb pw pt kpl khd kch kdp kpr kbb kby kbs kfe ked keb kwho khe = some (ans, st', 0, khp', kpm', sn', ed', pb', pw', pt', kpl', khd', kch', kdp', kpr', kbb', kby', kbs', kfe', ked', keb', kwho', khe') ∧ schI fo' sl' sf' ∧ plR l' psz' pm' khp' kpm' pb' pw' pt' := by
  obtain ⟨r1, r2, r3, r4, r5, r6, r7, r8⟩ := hr
  subst r1; subst r2; subst r3; subst r4
  obtain ⟨a, s, fo', qd', sp', w0', h0', n0', wl0', t0', k0', p0', l0', g0', a0', wd0', hg0', s0', lo', hi', sl', sf', mv', di', qu', psz', pm', new, e1, sc, f1, hN, hS⟩ := s_fewest_11_11 hX.1 hX.2.1 hc hs qd sp w0 h0 n0 wl0 t0 k0 p0 l0 g0 a0 wd0 hg0 s0 lo hi mv di qu st psz pm
  obtain ⟨a', s', khp', kpm', sn', ed', pb', pw', pt', kpl', khd', kch', kdp', kpr', kbb', kby', kbs', kfe', ked', keb', kwho', khe', new2, e2, f2, g2, g3⟩ := m_fewest hX.1 hX.2.1 r6 r5 r7 r8 st2 th khp kpm sn ed pb pw pt kpl khd kch kdp kpr kbb kby kbs kfe ked keb kwho khe
  obtain ⟨ea, es, en⟩ := pl_u f1 f2
  subst ea; subst es; subst en
  cases new with
  | none =>
    obtain ⟨z1, z2⟩ := hN rfl
    obtain ⟨y1, y2, y3, y4, y5⟩ := g2 rfl
    subst z1; subst z2; subst y1; subst y2; subst y3; subst y4; subst y5
    exact ⟨a, s, fo', qd', sp', w0', h0', n0', wl0', t0', k0', p0', l0', g0', a0', wd0', hg0', s0', lo', hi', sl', sf', mv', di', qu', _, _, _, _, sn', ed', _, _, _, kpl', khd', kch', kdp', kpr', kbb', kby', kbs', kfe', ked', keb', kwho', khe', l, e1, e2, sc, hp⟩
  | some l' =>
    obtain ⟨z1, z2, z3⟩ := hS l' rfl
    obtain ⟨y1, y2, y3, y4⟩ := g3 l' rfl
    exact ⟨a, s, fo', qd', sp', w0', h0', n0', wl0', t0', k0', p0', l0', g0', a0', wd0', hg0', s0', lo', hi', sl', sf', mv', di', qu', _, _, _, _, sn', ed', _, _, _, kpl', khd', kch', kdp', kpr', kbb', kby', kbs', kfe', ked', keb', kwho', khe', l', e1, e2, sc, z3, pl_400 hX f1, z1, z2, y1, y2, y4⟩
theorem eq_fewest_0_11 {X : BP} {cw chh cn : Int32} {cwl ct : Int64} {ck cp cl cg ca cwd chg : Nat → Int32} {cs : Nat → Int64} {khas kw kh kn : Int32} {kwl kk kat ks ky kg : Nat → Int32} {khp kpm : Int32} {pb pw pt : Nat → Int32} (hX : okX X) (hc : chX X.1 X.2 cw chh cn cwl ct ck cp cl cg ca cwd chg cs) (hr : rfX X.1 X.2 khas kw kh kn kwl kk kat ks ky kg) (st st2 th sn ed : Int32) (fo qd sp w0 h0 n0 : Int32) (wl0 t0 : Int64) (k0 p0 l0 g0 a0 wd0 hg0 : Nat → Int32) (s0 lo hi : Nat → Int64) (sl sf mv di qu : Nat → Int32) (hs : schI fo sl sf) (kpl khd kch kdp kpr kbb kby kbs kfe ked keb kwho khe : Nat → Int32) :
    (∃ (ans st' : Int32) (fo' qd' sp' w0' h0' n0' : Int32) (wl0' t0' : Int64) (k0' p0' l0' g0' a0' wd0' hg0' : Nat → Int32) (s0' lo' hi' : Nat → Int64) (sl' sf' mv' di' qu' : Nat → Int32) (sn' ed' : Int32) (kpl' khd' kch' kdp' kpr' kbb' kby' kbs' kfe' ked' keb' kwho' khe' : Nat → Int32), f_BargeBasin_fewest_plan00_search11 st cw chh cn cwl ct ck cp cl cg ca cwd chg cs fo qd sp w0 h0 n0 wl0 t0 k0 p0 l0 g0 a0 wd0 hg0 s0 lo hi sl sf mv di qu = some (ans, st', fo', qd', sp', w0', h0', n0', wl0', t0', k0', p0', l0', g0', a0', wd0', hg0', s0', lo', hi', sl', sf', mv', di', qu') ∧ f_BargeBasinModel_fewest st2 th khas kw kh kn khp kpm sn ed kwl kk kat ks ky kg pb pw pt kpl khd kch kdp kpr kbb kby kbs kfe ked keb kwho khe = some (ans, st', 0, khp, kpm, sn', ed', pb, pw, pt, kpl', khd', kch', kdp', kpr', kbb', kby', kbs', kfe', ked', keb', kwho', khe') ∧ schI fo' sl' sf') ∨
    (∃ (ans st' : Int32) (fo' qd' sp' w0' h0' n0' : Int32) (wl0' t0' : Int64) (k0' p0' l0' g0' a0' wd0' hg0' : Nat → Int32) (s0' lo' hi' : Nat → Int64) (sl' sf' mv' di' qu' : Nat → Int32) (psz' : Int32) (pm' : Nat → Int32) (khp' kpm' sn' ed' : Int32) (pb' pw' pt' kpl' khd' kch' kdp' kpr' kbb' kby' kbs' kfe' ked' keb' kwho' khe' : Nat → Int32) (l' : List Nat), f_BargeBasin_fewest_plan01_search11 st cw chh cn cwl ct ck cp cl cg ca cwd chg cs fo qd sp w0 h0 n0 wl0 t0 k0 p0 l0 g0 a0 wd0 hg0 s0 lo hi sl sf mv di qu = some (ans, st', fo', qd', sp', w0', h0', n0', wl0', t0', k0', p0', l0', g0', a0', wd0', hg0', s0', lo', hi', sl', sf', mv', di', qu', psz', pm') ∧ f_BargeBasinModel_fewest st2 th khas kw kh kn khp kpm sn ed kwl kk kat ks ky kg pb pw pt kpl khd kch kdp kpr kbb kby kbs kfe ked keb kwho khe = some (ans, st', 0, khp', kpm', sn', ed', pb', pw', pt', kpl', khd', kch', kdp', kpr', kbb', kby', kbs', kfe', ked', keb', kwho', khe') ∧ schI fo' sl' sf' ∧ plR l' psz' pm' khp' kpm' pb' pw' pt') := by
  obtain ⟨r1, r2, r3, r4, r5, r6, r7, r8⟩ := hr
  subst r1; subst r2; subst r3; subst r4
  obtain ⟨a', s', khp', kpm', sn', ed', pb', pw', pt', kpl', khd', kch', kdp', kpr', kbb', kby', kbs', kfe', ked', keb', kwho', khe', new2, e2, f2, g2, g3⟩ := m_fewest hX.1 hX.2.1 r6 r5 r7 r8 st2 th khp kpm sn ed pb pw pt kpl khd kch kdp kpr kbb kby kbs kfe ked keb kwho khe
  by_cases fd : fnd X.1 7 X.2
  · obtain ⟨a, s, fo', qd', sp', w0', h0', n0', wl0', t0', k0', p0', l0', g0', a0', wd0', hg0', s0', lo', hi', sl', sf', mv', di', qu', psz', pm', l', e1, sc, f1, z1, z2, z3⟩ := s_fewest_01_11 hX.1 hX.2.1 hc fd hs qd sp w0 h0 n0 wl0 t0 k0 p0 l0 g0 a0 wd0 hg0 s0 lo hi mv di qu st
    obtain ⟨ea, es, en⟩ := pl_u f1 f2
    subst ea; subst es; subst en
    obtain ⟨y1, y2, y3, y4⟩ := g3 l' rfl
    exact Or.inr ⟨a, s, fo', qd', sp', w0', h0', n0', wl0', t0', k0', p0', l0', g0', a0', wd0', hg0', s0', lo', hi', sl', sf', mv', di', qu', _, _, _, _, sn', ed', _, _, _, kpl', khd', kch', kdp', kpr', kbb', kby', kbs', kfe', ked', keb', kwho', khe', l', e1, e2, sc, z3, pl_400 hX f1, z1, z2, y1, y2, y4⟩
  · obtain ⟨a, s, fo', qd', sp', w0', h0', n0', wl0', t0', k0', p0', l0', g0', a0', wd0', hg0', s0', lo', hi', sl', sf', mv', di', qu', e1, sc, f1⟩ := s_fewest_00_11 hX.1 hX.2.1 hc fd hs qd sp w0 h0 n0 wl0 t0 k0 p0 l0 g0 a0 wd0 hg0 s0 lo hi mv di qu st
    obtain ⟨ea, es, en⟩ := pl_u f1 f2
    subst ea; subst es; subst en
    obtain ⟨y1, y2, y3, y4, y5⟩ := g2 rfl
    subst y1; subst y2; subst y3; subst y4; subst y5
    exact Or.inl ⟨a, s, fo', qd', sp', w0', h0', n0', wl0', t0', k0', p0', l0', g0', a0', wd0', hg0', s0', lo', hi', sl', sf', mv', di', qu', sn', ed', kpl', khd', kch', kdp', kpr', kbb', kby', kbs', kfe', ked', keb', kwho', khe', e1, e2, sc⟩
theorem eq_fewest_1_01 {X : BP} {cw chh cn : Int32} {cwl ct : Int64} {ck cp cl cg ca cwd chg : Nat → Int32} {cs : Nat → Int64} {khas kw kh kn : Int32} {kwl kk kat ks ky kg : Nat → Int32} {l : List Nat} {psz khp kpm : Int32} {pm pb pw pt : Nat → Int32} (hX : okX X) (hc : chX X.1 X.2 cw chh cn cwl ct ck cp cl cg ca cwd chg cs) (hr : rfX X.1 X.2 khas kw kh kn kwl kk kat ks ky kg) (hp : plR l psz pm khp kpm pb pw pt) (st st2 th sn ed : Int32) (kpl khd kch kdp kpr kbb kby kbs kfe ked keb kwho khe : Nat → Int32) :
    ∃ (ans st' : Int32) (fo' qd' sp' w0' h0' n0' : Int32) (wl0' t0' : Int64) (k0' p0' l0' g0' a0' wd0' hg0' : Nat → Int32) (s0' lo' hi' : Nat → Int64) (sl' sf' mv' di' qu' : Nat → Int32) (psz' : Int32) (pm' : Nat → Int32) (khp' kpm' sn' ed' : Int32) (pb' pw' pt' kpl' khd' kch' kdp' kpr' kbb' kby' kbs' kfe' ked' keb' kwho' khe' : Nat → Int32) (l' : List Nat), f_BargeBasin_fewest_plan11_search01 st cw chh cn cwl ct ck cp cl cg ca cwd chg cs psz pm = some (ans, st', psz', pm', fo', qd', sp', w0', h0', n0', wl0', t0', k0', p0', l0', g0', a0', wd0', hg0', s0', lo', hi', sl', sf', mv', di', qu') ∧ f_BargeBasinModel_fewest st2 th khas kw kh kn khp kpm sn ed kwl kk kat ks ky kg pb pw pt kpl khd kch kdp kpr kbb kby kbs kfe ked keb kwho khe = some (ans, st', 0, khp', kpm', sn', ed', pb', pw', pt', kpl', khd', kch', kdp', kpr', kbb', kby', kbs', kfe', ked', keb', kwho', khe') ∧ schI fo' sl' sf' ∧ plR l' psz' pm' khp' kpm' pb' pw' pt' := by
  obtain ⟨r1, r2, r3, r4, r5, r6, r7, r8⟩ := hr
  subst r1; subst r2; subst r3; subst r4
  obtain ⟨a, s, fo', qd', sp', w0', h0', n0', wl0', t0', k0', p0', l0', g0', a0', wd0', hg0', s0', lo', hi', sl', sf', mv', di', qu', psz', pm', new, e1, sc, f1, hN, hS⟩ := s_fewest_11_01 hX.1 hX.2.1 hc st psz pm
  obtain ⟨a', s', khp', kpm', sn', ed', pb', pw', pt', kpl', khd', kch', kdp', kpr', kbb', kby', kbs', kfe', ked', keb', kwho', khe', new2, e2, f2, g2, g3⟩ := m_fewest hX.1 hX.2.1 r6 r5 r7 r8 st2 th khp kpm sn ed pb pw pt kpl khd kch kdp kpr kbb kby kbs kfe ked keb kwho khe
  obtain ⟨ea, es, en⟩ := pl_u f1 f2
  subst ea; subst es; subst en
  cases new with
  | none =>
    obtain ⟨z1, z2⟩ := hN rfl
    obtain ⟨y1, y2, y3, y4, y5⟩ := g2 rfl
    subst z1; subst z2; subst y1; subst y2; subst y3; subst y4; subst y5
    exact ⟨a, s, fo', qd', sp', w0', h0', n0', wl0', t0', k0', p0', l0', g0', a0', wd0', hg0', s0', lo', hi', sl', sf', mv', di', qu', _, _, _, _, sn', ed', _, _, _, kpl', khd', kch', kdp', kpr', kbb', kby', kbs', kfe', ked', keb', kwho', khe', l, e1, e2, sc, hp⟩
  | some l' =>
    obtain ⟨z1, z2, z3⟩ := hS l' rfl
    obtain ⟨y1, y2, y3, y4⟩ := g3 l' rfl
    exact ⟨a, s, fo', qd', sp', w0', h0', n0', wl0', t0', k0', p0', l0', g0', a0', wd0', hg0', s0', lo', hi', sl', sf', mv', di', qu', _, _, _, _, sn', ed', _, _, _, kpl', khd', kch', kdp', kpr', kbb', kby', kbs', kfe', ked', keb', kwho', khe', l', e1, e2, sc, z3, pl_400 hX f1, z1, z2, y1, y2, y4⟩
theorem eq_fewest_0_01 {X : BP} {cw chh cn : Int32} {cwl ct : Int64} {ck cp cl cg ca cwd chg : Nat → Int32} {cs : Nat → Int64} {khas kw kh kn : Int32} {kwl kk kat ks ky kg : Nat → Int32} {khp kpm : Int32} {pb pw pt : Nat → Int32} (hX : okX X) (hc : chX X.1 X.2 cw chh cn cwl ct ck cp cl cg ca cwd chg cs) (hr : rfX X.1 X.2 khas kw kh kn kwl kk kat ks ky kg) (st st2 th sn ed : Int32) (kpl khd kch kdp kpr kbb kby kbs kfe ked keb kwho khe : Nat → Int32) :
    (∃ (ans st' : Int32) (fo' qd' sp' w0' h0' n0' : Int32) (wl0' t0' : Int64) (k0' p0' l0' g0' a0' wd0' hg0' : Nat → Int32) (s0' lo' hi' : Nat → Int64) (sl' sf' mv' di' qu' : Nat → Int32) (sn' ed' : Int32) (kpl' khd' kch' kdp' kpr' kbb' kby' kbs' kfe' ked' keb' kwho' khe' : Nat → Int32), f_BargeBasin_fewest_plan00_search01 st cw chh cn cwl ct ck cp cl cg ca cwd chg cs = some (ans, st', fo', qd', sp', w0', h0', n0', wl0', t0', k0', p0', l0', g0', a0', wd0', hg0', s0', lo', hi', sl', sf', mv', di', qu') ∧ f_BargeBasinModel_fewest st2 th khas kw kh kn khp kpm sn ed kwl kk kat ks ky kg pb pw pt kpl khd kch kdp kpr kbb kby kbs kfe ked keb kwho khe = some (ans, st', 0, khp, kpm, sn', ed', pb, pw, pt, kpl', khd', kch', kdp', kpr', kbb', kby', kbs', kfe', ked', keb', kwho', khe') ∧ schI fo' sl' sf') ∨
    (∃ (ans st' : Int32) (fo' qd' sp' w0' h0' n0' : Int32) (wl0' t0' : Int64) (k0' p0' l0' g0' a0' wd0' hg0' : Nat → Int32) (s0' lo' hi' : Nat → Int64) (sl' sf' mv' di' qu' : Nat → Int32) (psz' : Int32) (pm' : Nat → Int32) (khp' kpm' sn' ed' : Int32) (pb' pw' pt' kpl' khd' kch' kdp' kpr' kbb' kby' kbs' kfe' ked' keb' kwho' khe' : Nat → Int32) (l' : List Nat), f_BargeBasin_fewest_plan01_search01 st cw chh cn cwl ct ck cp cl cg ca cwd chg cs = some (ans, st', fo', qd', sp', w0', h0', n0', wl0', t0', k0', p0', l0', g0', a0', wd0', hg0', s0', lo', hi', sl', sf', mv', di', qu', psz', pm') ∧ f_BargeBasinModel_fewest st2 th khas kw kh kn khp kpm sn ed kwl kk kat ks ky kg pb pw pt kpl khd kch kdp kpr kbb kby kbs kfe ked keb kwho khe = some (ans, st', 0, khp', kpm', sn', ed', pb', pw', pt', kpl', khd', kch', kdp', kpr', kbb', kby', kbs', kfe', ked', keb', kwho', khe') ∧ schI fo' sl' sf' ∧ plR l' psz' pm' khp' kpm' pb' pw' pt') := by
  obtain ⟨r1, r2, r3, r4, r5, r6, r7, r8⟩ := hr
  subst r1; subst r2; subst r3; subst r4
  obtain ⟨a', s', khp', kpm', sn', ed', pb', pw', pt', kpl', khd', kch', kdp', kpr', kbb', kby', kbs', kfe', ked', keb', kwho', khe', new2, e2, f2, g2, g3⟩ := m_fewest hX.1 hX.2.1 r6 r5 r7 r8 st2 th khp kpm sn ed pb pw pt kpl khd kch kdp kpr kbb kby kbs kfe ked keb kwho khe
  by_cases fd : fnd X.1 7 X.2
  · obtain ⟨a, s, fo', qd', sp', w0', h0', n0', wl0', t0', k0', p0', l0', g0', a0', wd0', hg0', s0', lo', hi', sl', sf', mv', di', qu', psz', pm', l', e1, sc, f1, z1, z2, z3⟩ := s_fewest_01_01 hX.1 hX.2.1 hc fd st
    obtain ⟨ea, es, en⟩ := pl_u f1 f2
    subst ea; subst es; subst en
    obtain ⟨y1, y2, y3, y4⟩ := g3 l' rfl
    exact Or.inr ⟨a, s, fo', qd', sp', w0', h0', n0', wl0', t0', k0', p0', l0', g0', a0', wd0', hg0', s0', lo', hi', sl', sf', mv', di', qu', _, _, _, _, sn', ed', _, _, _, kpl', khd', kch', kdp', kpr', kbb', kby', kbs', kfe', ked', keb', kwho', khe', l', e1, e2, sc, z3, pl_400 hX f1, z1, z2, y1, y2, y4⟩
  · obtain ⟨a, s, fo', qd', sp', w0', h0', n0', wl0', t0', k0', p0', l0', g0', a0', wd0', hg0', s0', lo', hi', sl', sf', mv', di', qu', e1, sc, f1⟩ := s_fewest_00_01 hX.1 hX.2.1 hc fd st
    obtain ⟨ea, es, en⟩ := pl_u f1 f2
    subst ea; subst es; subst en
    obtain ⟨y1, y2, y3, y4, y5⟩ := g2 rfl
    subst y1; subst y2; subst y3; subst y4; subst y5
    exact Or.inl ⟨a, s, fo', qd', sp', w0', h0', n0', wl0', t0', k0', p0', l0', g0', a0', wd0', hg0', s0', lo', hi', sl', sf', mv', di', qu', sn', ed', kpl', khd', kch', kdp', kpr', kbb', kby', kbs', kfe', ked', keb', kwho', khe', e1, e2, sc⟩
theorem eq_fewestSteps_1_11 {X : BP} {cw chh cn : Int32} {cwl ct : Int64} {ck cp cl cg ca cwd chg : Nat → Int32} {cs : Nat → Int64} {khas kw kh kn : Int32} {kwl kk kat ks ky kg : Nat → Int32} {l : List Nat} {psz khp kpm : Int32} {pm pb pw pt : Nat → Int32} (hX : okX X) (hc : chX X.1 X.2 cw chh cn cwl ct ck cp cl cg ca cwd chg cs) (hr : rfX X.1 X.2 khas kw kh kn kwl kk kat ks ky kg) (hp : plR l psz pm khp kpm pb pw pt) (st st2 th sn ed : Int32) (fo qd sp w0 h0 n0 : Int32) (wl0 t0 : Int64) (k0 p0 l0 g0 a0 wd0 hg0 : Nat → Int32) (s0 lo hi : Nat → Int64) (sl sf mv di qu : Nat → Int32) (hs : schI fo sl sf) (kpl khd kch kdp kpr kbb kby kbs kfe ked keb kwho khe : Nat → Int32) :
    ∃ (ans st' : Int32) (fo' qd' sp' w0' h0' n0' : Int32) (wl0' t0' : Int64) (k0' p0' l0' g0' a0' wd0' hg0' : Nat → Int32) (s0' lo' hi' : Nat → Int64) (sl' sf' mv' di' qu' : Nat → Int32) (psz' : Int32) (pm' : Nat → Int32) (khp' kpm' sn' ed' : Int32) (pb' pw' pt' kpl' khd' kch' kdp' kpr' kbb' kby' kbs' kfe' ked' keb' kwho' khe' : Nat → Int32) (l' : List Nat), f_BargeBasin_fewestSteps_plan11_search11 st cw chh cn cwl ct ck cp cl cg ca cwd chg cs fo qd sp w0 h0 n0 wl0 t0 k0 p0 l0 g0 a0 wd0 hg0 s0 lo hi sl sf mv di qu psz pm = some (ans, st', fo', qd', sp', w0', h0', n0', wl0', t0', k0', p0', l0', g0', a0', wd0', hg0', s0', lo', hi', sl', sf', mv', di', qu', psz', pm') ∧ f_BargeBasinModel_fewestSteps st2 th khas kw kh kn khp kpm sn ed kwl kk kat ks ky kg pb pw pt kpl khd kch kdp kpr kbb kby kbs kfe ked keb kwho khe = some (ans, st', 0, khp', kpm', sn', ed', pb', pw', pt', kpl', khd', kch', kdp', kpr', kbb', kby', kbs', kfe', ked', keb', kwho', khe') ∧ schI fo' sl' sf' ∧ plR l' psz' pm' khp' kpm' pb' pw' pt' := by
  obtain ⟨r1, r2, r3, r4, r5, r6, r7, r8⟩ := hr
  subst r1; subst r2; subst r3; subst r4
  obtain ⟨a, s, fo', qd', sp', w0', h0', n0', wl0', t0', k0', p0', l0', g0', a0', wd0', hg0', s0', lo', hi', sl', sf', mv', di', qu', psz', pm', new, e1, sc, f1, hN, hS⟩ := s_fewestSteps_11_11 hX.1 hX.2.1 hc hs qd sp w0 h0 n0 wl0 t0 k0 p0 l0 g0 a0 wd0 hg0 s0 lo hi mv di qu st psz pm
  obtain ⟨a', s', khp', kpm', sn', ed', pb', pw', pt', kpl', khd', kch', kdp', kpr', kbb', kby', kbs', kfe', ked', keb', kwho', khe', new2, e2, f2, g2, g3⟩ := m_fewestSteps hX.1 hX.2.1 r6 r5 r7 r8 st2 th khp kpm sn ed pb pw pt kpl khd kch kdp kpr kbb kby kbs kfe ked keb kwho khe
  obtain ⟨ea, es, en⟩ := pl_u f1 f2
  subst ea; subst es; subst en
  cases new with
  | none =>
    obtain ⟨z1, z2⟩ := hN rfl
    obtain ⟨y1, y2, y3, y4, y5⟩ := g2 rfl
    subst z1; subst z2; subst y1; subst y2; subst y3; subst y4; subst y5
    exact ⟨a, s, fo', qd', sp', w0', h0', n0', wl0', t0', k0', p0', l0', g0', a0', wd0', hg0', s0', lo', hi', sl', sf', mv', di', qu', _, _, _, _, sn', ed', _, _, _, kpl', khd', kch', kdp', kpr', kbb', kby', kbs', kfe', ked', keb', kwho', khe', l, e1, e2, sc, hp⟩
  | some l' =>
    obtain ⟨z1, z2, z3⟩ := hS l' rfl
    obtain ⟨y1, y2, y3, y4⟩ := g3 l' rfl
    exact ⟨a, s, fo', qd', sp', w0', h0', n0', wl0', t0', k0', p0', l0', g0', a0', wd0', hg0', s0', lo', hi', sl', sf', mv', di', qu', _, _, _, _, sn', ed', _, _, _, kpl', khd', kch', kdp', kpr', kbb', kby', kbs', kfe', ked', keb', kwho', khe', l', e1, e2, sc, z3, pl_400 hX f1, z1, z2, y1, y2, y4⟩
theorem eq_fewestSteps_0_11 {X : BP} {cw chh cn : Int32} {cwl ct : Int64} {ck cp cl cg ca cwd chg : Nat → Int32} {cs : Nat → Int64} {khas kw kh kn : Int32} {kwl kk kat ks ky kg : Nat → Int32} {khp kpm : Int32} {pb pw pt : Nat → Int32} (hX : okX X) (hc : chX X.1 X.2 cw chh cn cwl ct ck cp cl cg ca cwd chg cs) (hr : rfX X.1 X.2 khas kw kh kn kwl kk kat ks ky kg) (st st2 th sn ed : Int32) (fo qd sp w0 h0 n0 : Int32) (wl0 t0 : Int64) (k0 p0 l0 g0 a0 wd0 hg0 : Nat → Int32) (s0 lo hi : Nat → Int64) (sl sf mv di qu : Nat → Int32) (hs : schI fo sl sf) (kpl khd kch kdp kpr kbb kby kbs kfe ked keb kwho khe : Nat → Int32) :
    (∃ (ans st' : Int32) (fo' qd' sp' w0' h0' n0' : Int32) (wl0' t0' : Int64) (k0' p0' l0' g0' a0' wd0' hg0' : Nat → Int32) (s0' lo' hi' : Nat → Int64) (sl' sf' mv' di' qu' : Nat → Int32) (sn' ed' : Int32) (kpl' khd' kch' kdp' kpr' kbb' kby' kbs' kfe' ked' keb' kwho' khe' : Nat → Int32), f_BargeBasin_fewestSteps_plan00_search11 st cw chh cn cwl ct ck cp cl cg ca cwd chg cs fo qd sp w0 h0 n0 wl0 t0 k0 p0 l0 g0 a0 wd0 hg0 s0 lo hi sl sf mv di qu = some (ans, st', fo', qd', sp', w0', h0', n0', wl0', t0', k0', p0', l0', g0', a0', wd0', hg0', s0', lo', hi', sl', sf', mv', di', qu') ∧ f_BargeBasinModel_fewestSteps st2 th khas kw kh kn khp kpm sn ed kwl kk kat ks ky kg pb pw pt kpl khd kch kdp kpr kbb kby kbs kfe ked keb kwho khe = some (ans, st', 0, khp, kpm, sn', ed', pb, pw, pt, kpl', khd', kch', kdp', kpr', kbb', kby', kbs', kfe', ked', keb', kwho', khe') ∧ schI fo' sl' sf') ∨
    (∃ (ans st' : Int32) (fo' qd' sp' w0' h0' n0' : Int32) (wl0' t0' : Int64) (k0' p0' l0' g0' a0' wd0' hg0' : Nat → Int32) (s0' lo' hi' : Nat → Int64) (sl' sf' mv' di' qu' : Nat → Int32) (psz' : Int32) (pm' : Nat → Int32) (khp' kpm' sn' ed' : Int32) (pb' pw' pt' kpl' khd' kch' kdp' kpr' kbb' kby' kbs' kfe' ked' keb' kwho' khe' : Nat → Int32) (l' : List Nat), f_BargeBasin_fewestSteps_plan01_search11 st cw chh cn cwl ct ck cp cl cg ca cwd chg cs fo qd sp w0 h0 n0 wl0 t0 k0 p0 l0 g0 a0 wd0 hg0 s0 lo hi sl sf mv di qu = some (ans, st', fo', qd', sp', w0', h0', n0', wl0', t0', k0', p0', l0', g0', a0', wd0', hg0', s0', lo', hi', sl', sf', mv', di', qu', psz', pm') ∧ f_BargeBasinModel_fewestSteps st2 th khas kw kh kn khp kpm sn ed kwl kk kat ks ky kg pb pw pt kpl khd kch kdp kpr kbb kby kbs kfe ked keb kwho khe = some (ans, st', 0, khp', kpm', sn', ed', pb', pw', pt', kpl', khd', kch', kdp', kpr', kbb', kby', kbs', kfe', ked', keb', kwho', khe') ∧ schI fo' sl' sf' ∧ plR l' psz' pm' khp' kpm' pb' pw' pt') := by
  obtain ⟨r1, r2, r3, r4, r5, r6, r7, r8⟩ := hr
  subst r1; subst r2; subst r3; subst r4
  obtain ⟨a', s', khp', kpm', sn', ed', pb', pw', pt', kpl', khd', kch', kdp', kpr', kbb', kby', kbs', kfe', ked', keb', kwho', khe', new2, e2, f2, g2, g3⟩ := m_fewestSteps hX.1 hX.2.1 r6 r5 r7 r8 st2 th khp kpm sn ed pb pw pt kpl khd kch kdp kpr kbb kby kbs kfe ked keb kwho khe
  by_cases fd : fnd X.1 1 X.2
  · obtain ⟨a, s, fo', qd', sp', w0', h0', n0', wl0', t0', k0', p0', l0', g0', a0', wd0', hg0', s0', lo', hi', sl', sf', mv', di', qu', psz', pm', l', e1, sc, f1, z1, z2, z3⟩ := s_fewestSteps_01_11 hX.1 hX.2.1 hc fd hs qd sp w0 h0 n0 wl0 t0 k0 p0 l0 g0 a0 wd0 hg0 s0 lo hi mv di qu st
    obtain ⟨ea, es, en⟩ := pl_u f1 f2
    subst ea; subst es; subst en
    obtain ⟨y1, y2, y3, y4⟩ := g3 l' rfl
    exact Or.inr ⟨a, s, fo', qd', sp', w0', h0', n0', wl0', t0', k0', p0', l0', g0', a0', wd0', hg0', s0', lo', hi', sl', sf', mv', di', qu', _, _, _, _, sn', ed', _, _, _, kpl', khd', kch', kdp', kpr', kbb', kby', kbs', kfe', ked', keb', kwho', khe', l', e1, e2, sc, z3, pl_400 hX f1, z1, z2, y1, y2, y4⟩
  · obtain ⟨a, s, fo', qd', sp', w0', h0', n0', wl0', t0', k0', p0', l0', g0', a0', wd0', hg0', s0', lo', hi', sl', sf', mv', di', qu', e1, sc, f1⟩ := s_fewestSteps_00_11 hX.1 hX.2.1 hc fd hs qd sp w0 h0 n0 wl0 t0 k0 p0 l0 g0 a0 wd0 hg0 s0 lo hi mv di qu st
    obtain ⟨ea, es, en⟩ := pl_u f1 f2
    subst ea; subst es; subst en
    obtain ⟨y1, y2, y3, y4, y5⟩ := g2 rfl
    subst y1; subst y2; subst y3; subst y4; subst y5
    exact Or.inl ⟨a, s, fo', qd', sp', w0', h0', n0', wl0', t0', k0', p0', l0', g0', a0', wd0', hg0', s0', lo', hi', sl', sf', mv', di', qu', sn', ed', kpl', khd', kch', kdp', kpr', kbb', kby', kbs', kfe', ked', keb', kwho', khe', e1, e2, sc⟩
theorem eq_fewestSteps_1_01 {X : BP} {cw chh cn : Int32} {cwl ct : Int64} {ck cp cl cg ca cwd chg : Nat → Int32} {cs : Nat → Int64} {khas kw kh kn : Int32} {kwl kk kat ks ky kg : Nat → Int32} {l : List Nat} {psz khp kpm : Int32} {pm pb pw pt : Nat → Int32} (hX : okX X) (hc : chX X.1 X.2 cw chh cn cwl ct ck cp cl cg ca cwd chg cs) (hr : rfX X.1 X.2 khas kw kh kn kwl kk kat ks ky kg) (hp : plR l psz pm khp kpm pb pw pt) (st st2 th sn ed : Int32) (kpl khd kch kdp kpr kbb kby kbs kfe ked keb kwho khe : Nat → Int32) :
    ∃ (ans st' : Int32) (fo' qd' sp' w0' h0' n0' : Int32) (wl0' t0' : Int64) (k0' p0' l0' g0' a0' wd0' hg0' : Nat → Int32) (s0' lo' hi' : Nat → Int64) (sl' sf' mv' di' qu' : Nat → Int32) (psz' : Int32) (pm' : Nat → Int32) (khp' kpm' sn' ed' : Int32) (pb' pw' pt' kpl' khd' kch' kdp' kpr' kbb' kby' kbs' kfe' ked' keb' kwho' khe' : Nat → Int32) (l' : List Nat), f_BargeBasin_fewestSteps_plan11_search01 st cw chh cn cwl ct ck cp cl cg ca cwd chg cs psz pm = some (ans, st', psz', pm', fo', qd', sp', w0', h0', n0', wl0', t0', k0', p0', l0', g0', a0', wd0', hg0', s0', lo', hi', sl', sf', mv', di', qu') ∧ f_BargeBasinModel_fewestSteps st2 th khas kw kh kn khp kpm sn ed kwl kk kat ks ky kg pb pw pt kpl khd kch kdp kpr kbb kby kbs kfe ked keb kwho khe = some (ans, st', 0, khp', kpm', sn', ed', pb', pw', pt', kpl', khd', kch', kdp', kpr', kbb', kby', kbs', kfe', ked', keb', kwho', khe') ∧ schI fo' sl' sf' ∧ plR l' psz' pm' khp' kpm' pb' pw' pt' := by
  obtain ⟨r1, r2, r3, r4, r5, r6, r7, r8⟩ := hr
  subst r1; subst r2; subst r3; subst r4
  obtain ⟨a, s, fo', qd', sp', w0', h0', n0', wl0', t0', k0', p0', l0', g0', a0', wd0', hg0', s0', lo', hi', sl', sf', mv', di', qu', psz', pm', new, e1, sc, f1, hN, hS⟩ := s_fewestSteps_11_01 hX.1 hX.2.1 hc st psz pm
  obtain ⟨a', s', khp', kpm', sn', ed', pb', pw', pt', kpl', khd', kch', kdp', kpr', kbb', kby', kbs', kfe', ked', keb', kwho', khe', new2, e2, f2, g2, g3⟩ := m_fewestSteps hX.1 hX.2.1 r6 r5 r7 r8 st2 th khp kpm sn ed pb pw pt kpl khd kch kdp kpr kbb kby kbs kfe ked keb kwho khe
  obtain ⟨ea, es, en⟩ := pl_u f1 f2
  subst ea; subst es; subst en
  cases new with
  | none =>
    obtain ⟨z1, z2⟩ := hN rfl
    obtain ⟨y1, y2, y3, y4, y5⟩ := g2 rfl
    subst z1; subst z2; subst y1; subst y2; subst y3; subst y4; subst y5
    exact ⟨a, s, fo', qd', sp', w0', h0', n0', wl0', t0', k0', p0', l0', g0', a0', wd0', hg0', s0', lo', hi', sl', sf', mv', di', qu', _, _, _, _, sn', ed', _, _, _, kpl', khd', kch', kdp', kpr', kbb', kby', kbs', kfe', ked', keb', kwho', khe', l, e1, e2, sc, hp⟩
  | some l' =>
    obtain ⟨z1, z2, z3⟩ := hS l' rfl
    obtain ⟨y1, y2, y3, y4⟩ := g3 l' rfl
    exact ⟨a, s, fo', qd', sp', w0', h0', n0', wl0', t0', k0', p0', l0', g0', a0', wd0', hg0', s0', lo', hi', sl', sf', mv', di', qu', _, _, _, _, sn', ed', _, _, _, kpl', khd', kch', kdp', kpr', kbb', kby', kbs', kfe', ked', keb', kwho', khe', l', e1, e2, sc, z3, pl_400 hX f1, z1, z2, y1, y2, y4⟩
theorem eq_fewestSteps_0_01 {X : BP} {cw chh cn : Int32} {cwl ct : Int64} {ck cp cl cg ca cwd chg : Nat → Int32} {cs : Nat → Int64} {khas kw kh kn : Int32} {kwl kk kat ks ky kg : Nat → Int32} {khp kpm : Int32} {pb pw pt : Nat → Int32} (hX : okX X) (hc : chX X.1 X.2 cw chh cn cwl ct ck cp cl cg ca cwd chg cs) (hr : rfX X.1 X.2 khas kw kh kn kwl kk kat ks ky kg) (st st2 th sn ed : Int32) (kpl khd kch kdp kpr kbb kby kbs kfe ked keb kwho khe : Nat → Int32) :
    (∃ (ans st' : Int32) (fo' qd' sp' w0' h0' n0' : Int32) (wl0' t0' : Int64) (k0' p0' l0' g0' a0' wd0' hg0' : Nat → Int32) (s0' lo' hi' : Nat → Int64) (sl' sf' mv' di' qu' : Nat → Int32) (sn' ed' : Int32) (kpl' khd' kch' kdp' kpr' kbb' kby' kbs' kfe' ked' keb' kwho' khe' : Nat → Int32), f_BargeBasin_fewestSteps_plan00_search01 st cw chh cn cwl ct ck cp cl cg ca cwd chg cs = some (ans, st', fo', qd', sp', w0', h0', n0', wl0', t0', k0', p0', l0', g0', a0', wd0', hg0', s0', lo', hi', sl', sf', mv', di', qu') ∧ f_BargeBasinModel_fewestSteps st2 th khas kw kh kn khp kpm sn ed kwl kk kat ks ky kg pb pw pt kpl khd kch kdp kpr kbb kby kbs kfe ked keb kwho khe = some (ans, st', 0, khp, kpm, sn', ed', pb, pw, pt, kpl', khd', kch', kdp', kpr', kbb', kby', kbs', kfe', ked', keb', kwho', khe') ∧ schI fo' sl' sf') ∨
    (∃ (ans st' : Int32) (fo' qd' sp' w0' h0' n0' : Int32) (wl0' t0' : Int64) (k0' p0' l0' g0' a0' wd0' hg0' : Nat → Int32) (s0' lo' hi' : Nat → Int64) (sl' sf' mv' di' qu' : Nat → Int32) (psz' : Int32) (pm' : Nat → Int32) (khp' kpm' sn' ed' : Int32) (pb' pw' pt' kpl' khd' kch' kdp' kpr' kbb' kby' kbs' kfe' ked' keb' kwho' khe' : Nat → Int32) (l' : List Nat), f_BargeBasin_fewestSteps_plan01_search01 st cw chh cn cwl ct ck cp cl cg ca cwd chg cs = some (ans, st', fo', qd', sp', w0', h0', n0', wl0', t0', k0', p0', l0', g0', a0', wd0', hg0', s0', lo', hi', sl', sf', mv', di', qu', psz', pm') ∧ f_BargeBasinModel_fewestSteps st2 th khas kw kh kn khp kpm sn ed kwl kk kat ks ky kg pb pw pt kpl khd kch kdp kpr kbb kby kbs kfe ked keb kwho khe = some (ans, st', 0, khp', kpm', sn', ed', pb', pw', pt', kpl', khd', kch', kdp', kpr', kbb', kby', kbs', kfe', ked', keb', kwho', khe') ∧ schI fo' sl' sf' ∧ plR l' psz' pm' khp' kpm' pb' pw' pt') := by
  obtain ⟨r1, r2, r3, r4, r5, r6, r7, r8⟩ := hr
  subst r1; subst r2; subst r3; subst r4
  obtain ⟨a', s', khp', kpm', sn', ed', pb', pw', pt', kpl', khd', kch', kdp', kpr', kbb', kby', kbs', kfe', ked', keb', kwho', khe', new2, e2, f2, g2, g3⟩ := m_fewestSteps hX.1 hX.2.1 r6 r5 r7 r8 st2 th khp kpm sn ed pb pw pt kpl khd kch kdp kpr kbb kby kbs kfe ked keb kwho khe
  by_cases fd : fnd X.1 1 X.2
  · obtain ⟨a, s, fo', qd', sp', w0', h0', n0', wl0', t0', k0', p0', l0', g0', a0', wd0', hg0', s0', lo', hi', sl', sf', mv', di', qu', psz', pm', l', e1, sc, f1, z1, z2, z3⟩ := s_fewestSteps_01_01 hX.1 hX.2.1 hc fd st
    obtain ⟨ea, es, en⟩ := pl_u f1 f2
    subst ea; subst es; subst en
    obtain ⟨y1, y2, y3, y4⟩ := g3 l' rfl
    exact Or.inr ⟨a, s, fo', qd', sp', w0', h0', n0', wl0', t0', k0', p0', l0', g0', a0', wd0', hg0', s0', lo', hi', sl', sf', mv', di', qu', _, _, _, _, sn', ed', _, _, _, kpl', khd', kch', kdp', kpr', kbb', kby', kbs', kfe', ked', keb', kwho', khe', l', e1, e2, sc, z3, pl_400 hX f1, z1, z2, y1, y2, y4⟩
  · obtain ⟨a, s, fo', qd', sp', w0', h0', n0', wl0', t0', k0', p0', l0', g0', a0', wd0', hg0', s0', lo', hi', sl', sf', mv', di', qu', e1, sc, f1⟩ := s_fewestSteps_00_01 hX.1 hX.2.1 hc fd st
    obtain ⟨ea, es, en⟩ := pl_u f1 f2
    subst ea; subst es; subst en
    obtain ⟨y1, y2, y3, y4, y5⟩ := g2 rfl
    subst y1; subst y2; subst y3; subst y4; subst y5
    exact Or.inl ⟨a, s, fo', qd', sp', w0', h0', n0', wl0', t0', k0', p0', l0', g0', a0', wd0', hg0', s0', lo', hi', sl', sf', mv', di', qu', sn', ed', kpl', khd', kch', kdp', kpr', kbb', kby', kbs', kfe', ked', keb', kwho', khe', e1, e2, sc⟩
