/-! trim of the class where the search is made in the call. -/
theorem s_trB01 {least : Nat} {v3 v4 cw chh : Int32} {cwl : Int64} (hle : least < 6000) : ∀ (b n : Nat) (X : BP) (cn : Int32) (ct : Int64) (ck cp cl cg ca cwd chg : Nat → Int32) (cs : Nat → Int64) (b1 d1 c1 : Int32) (w1 t1 : Int64) (k1 p1 l1 g1 a1 wd1 hg1 : Nat → Int32) (s1 : Nat → Int64) (fo qd sp w0 h0 n0 : Int32) (wl0 t0 : Int64) (k0 p0 l0 g0 a0 wd0 hg0 : Nat → Int32) (s0 lo hi : Nat → Int64) (sl sf mv di qu : Nat → Int32), b ≤ bn X.1 → b < n → okX X → chX X.1 X.2 cw chh cn cwl ct ck cp cl cg ca cwd chg cs → schI fo sl sf →
    ∃ cn' ct' ck' cp' cl' cg' ca' cwd' chg' cs' b1' d1' c1' w1' t1' k1' p1' l1' g1' a1' wd1' hg1' s1' fo' qd' sp' w0' h0' n0' wl0' t0' k0' p0' l0' g0' a0' wd0' hg0' s0' lo' hi' sl' sf' mv' di' qu', f_BargeBasin_trim_search01_L50 (nI least) v3 v4 cw chh cwl n (nI b + (-1)) cn ct ck cp cl cg ca cwd chg cs b1 d1 c1 w1 t1 k1 p1 l1 g1 a1 wd1 hg1 s1 fo qd sp w0 h0 n0 wl0 t0 k0 p0 l0 g0 a0 wd0 hg0 s0 lo hi sl sf mv di qu = some (cn', ct', ck', cp', cl', cg', ca', cwd', chg', cs', b1', d1', c1', w1', t1', k1', p1', l1', g1', a1', wd1', hg1', s1', fo', qd', sp', w0', h0', n0', wl0', t0', k0', p0', l0', g0', a0', wd0', hg0', s0', lo', hi', sl', sf', mv', di', qu') ∧ chX (bT least b X).1 (bT least b X).2 cw chh cn' cwl ct' ck' cp' cl' cg' ca' cwd' chg' cs' ∧ schI fo' sl' sf' := by
  intro b
  induction b with
  | zero =>
    intro n X cn ct ck cp cl cg ca cwd chg cs b1 d1 c1 w1 t1 k1 p1 l1 g1 a1 wd1 hg1 s1 fo qd sp w0 h0 n0 wl0 t0 k0 p0 l0 g0 a0 wd0 hg0 s0 lo hi sl sf mv di qu hb hn h hc hs
    obtain ⟨n, rfl⟩ : ∃ z, n = z + 1 := ⟨n - 1, by omega⟩
    refine ⟨cn, ct, ck, cp, cl, cg, ca, cwd, chg, cs, b1, d1, c1, w1, t1, k1, p1, l1, g1, a1, wd1, hg1, s1, fo, qd, sp, w0, h0, n0, wl0, t0, k0, p0, l0, g0, a0, wd0, hg0, s0, lo, hi, sl, sf, mv, di, qu, ?_, hc, hs⟩
    rw [f_BargeBasin_trim_search01_L50, if_pos (show nI 0 + (-1) < 0 by decide)]
  | succ b ih =>
    intro n X cn ct ck cp cl cg ca cwd chg cs b1 d1 c1 w1 t1 k1 p1 l1 g1 a1 wd1 hg1 s1 fo qd sp w0 h0 n0 wl0 t0 k0 p0 l0 g0 a0 wd0 hg0 s0 lo hi sl sf mv di qu hb hn h hc hs
    obtain ⟨n, rfl⟩ : ∃ z, n = z + 1 := ⟨n - 1, by omega⟩
    have hb' : b < bn X.1 := by omega
    have n12 := h.1.2.2.2.2.1
    obtain ⟨z1, z2, -⟩ := basOk_wh h.1 hb'
    obtain ⟨k2, p2, l2, g2, a2', wd2, hg2, s2, e1, y1⟩ := cp_chX h.1 hc b1 d1 c1 w1 t1 k1 p1 l1 g1 a1 wd1 hg1 s1
    obtain ⟨cn3, ct3, ck3, cp3, cl3, cg3, ca3, cwd3, chg3, cs3, e2, y2⟩ := s_drop h.1 h.2.1 y1 hb'
    have c5 : (nI (bK X.1 b) = 5) = (bK X.1 b = 5) := nI_eqL (j := 5) (by omega) (by decide)
    rw [nI_m1, f_BargeBasin_trim_search01_L50, if_neg (nI_nn (by omega)), ev_b _ e1, un13_ap, ev_b _ e2, un10_ap, ev_grdN _ z1 (by decide), cl_nI z1, (hc.2.2.2.2.2.1 b hb').1]
    simp only [c5, ev_bnd]
    unfold bT
    by_cases k5 : bK X.1 b = 5
    · rw [if_pos k5, if_neg (fun z => z.1 k5)]
      exact ih n X _ _ _ _ _ _ _ _ _ _ _ _ _ _ _ _ _ _ _ _ _ _ _ _ _ _ _ _ _ _ _ _ _ _ _ _ _ _ _ _ _ _ _ _ _ _ (by omega) (by omega) h hc hs
    · have od := ok_drop h hb'
      obtain ⟨tt, fo', qd', sp', w0', h0', n0', wl0', t0', k0', p0', l0', g0', a0', wd0', hg0', s0', lo', hi', sl', sf', mv', di', qu', e3, sc, t2⟩ := s_stays od.1 od.2.1 y2 hle hs qd sp w0 h0 n0 wl0 t0 k0 p0 l0 g0 a0 wd0 hg0 s0 lo hi mv di qu
      rw [if_neg k5, ev_b _ e3, un24_ap]
      cases tt with
      | false =>
        have nh : ¬ (bK X.1 b ≠ 5 ∧ hrdB (dropB X.1 b) (dropP X.2 b) least = true) := fun z => by have := t2.mpr (hrdB_t.mp z.2); cases this
        rw [if_pos (show bI false = 0 by decide), if_neg nh]
        exact ih n X _ _ _ _ _ _ _ _ _ _ _ _ _ _ _ _ _ _ _ _ _ _ _ _ _ _ _ _ _ _ _ _ _ _ _ _ _ _ _ _ _ _ _ _ _ _ (by omega) (by omega) h hc sc
      | true =>
        have yh : bK X.1 b ≠ 5 ∧ hrdB (dropB X.1 b) (dropP X.2 b) least = true := ⟨k5, hrdB_t.mpr (t2.mp rfl)⟩
        obtain ⟨cn4, ct4, ck4, cp4, cl4, cg4, ca4, cwd4, chg4, cs4, e4, y4⟩ := s_drop h.1 h.2.1 hc hb'
        have n1 : bn (dropB X.1 b) = bn X.1 - 1 := rfl
        rw [if_neg (show ¬ bI true = 0 by decide), ev_b _ e4, un10_ap, if_pos yh]
        exact ih n (dropB X.1 b, dropP X.2 b) _ _ _ _ _ _ _ _ _ _ _ _ _ _ _ _ _ _ _ _ _ _ _ _ _ _ _ _ _ _ _ _ _ _ _ _ _ _ _ _ _ _ _ _ _ _ (by show b ≤ bn (dropB X.1 b); omega) (by omega) od y4 sc
theorem s_trW01 {least : Nat} {X : BP} {v3 v4 cw chh cn : Int32} {ct : Int64} {ck cp cl cg ca cwd chg : Nat → Int32} {cs : Nat → Int64} (hle : least < 6000) (hX : okX X) : ∀ (r k n : Nat) (cwl : Int64) (b1 d1 c1 : Int32) (w1 t1 : Int64) (k1 p1 l1 g1 a1 wd1 hg1 : Nat → Int32) (s1 : Nat → Int64) (fo qd sp w0 h0 n0 : Int32) (wl0 t0 : Int64) (k0 p0 l0 g0 a0 wd0 hg0 : Nat → Int32) (s0 lo hi : Nat → Int64) (sl sf mv di qu : Nat → Int32), k + r = 64 → r < n → chX (wT least k X).1 (wT least k X).2 cw chh cn cwl ct ck cp cl cg ca cwd chg cs → schI fo sl sf →
    ∃ cwl' b1' d1' c1' w1' t1' k1' p1' l1' g1' a1' wd1' hg1' s1' fo' qd' sp' w0' h0' n0' wl0' t0' k0' p0' l0' g0' a0' wd0' hg0' s0' lo' hi' sl' sf' mv' di' qu', f_BargeBasin_trim_search01_L115 (nI least) v3 v4 cw chh cn ct ck cp cl cg ca cwd chg cs n (nI k) cwl b1 d1 c1 w1 t1 k1 p1 l1 g1 a1 wd1 hg1 s1 fo qd sp w0 h0 n0 wl0 t0 k0 p0 l0 g0 a0 wd0 hg0 s0 lo hi sl sf mv di qu = some (cwl', b1', d1', c1', w1', t1', k1', p1', l1', g1', a1', wd1', hg1', s1', fo', qd', sp', w0', h0', n0', wl0', t0', k0', p0', l0', g0', a0', wd0', hg0', s0', lo', hi', sl', sf', mv', di', qu') ∧ chX (wT least 64 X).1 (wT least 64 X).2 cw chh cn cwl' ct ck cp cl cg ca cwd chg cs ∧ schI fo' sl' sf' := by
  intro r
  induction r with
  | zero =>
    intro k n cwl b1 d1 c1 w1 t1 k1 p1 l1 g1 a1 wd1 hg1 s1 fo qd sp w0 h0 n0 wl0 t0 k0 p0 l0 g0 a0 wd0 hg0 s0 lo hi sl sf mv di qu h1 h2 hc hs
    obtain ⟨n, rfl⟩ : ∃ z, n = z + 1 := ⟨n - 1, by omega⟩
    have e : k = 64 := by omega
    subst e
    refine ⟨cwl, b1, d1, c1, w1, t1, k1, p1, l1, g1, a1, wd1, hg1, s1, fo, qd, sp, w0, h0, n0, wl0, t0, k0, p0, l0, g0, a0, wd0, hg0, s0, lo, hi, sl, sf, mv, di, qu, ?_, hc, hs⟩
    rw [f_BargeBasin_trim_search01_L115, if_pos (show (64 : Int32) ≤ nI 64 by decide)]
  | succ r ih =>
    intro k n cwl b1 d1 c1 w1 t1 k1 p1 l1 g1 a1 wd1 hg1 s1 fo qd sp w0 h0 n0 wl0 t0 k0 p0 l0 g0 a0 wd0 hg0 s0 lo hi sl sf mv di qu h1 h2 hc hs
    obtain ⟨n, rfl⟩ : ∃ z, n = z + 1 := ⟨n - 1, by omega⟩
    obtain ⟨q1, -⟩ := wT_ok (least := least) hX k (by omega)
    obtain ⟨k2, p2, l2, g2, a2', wd2, hg2, s2, e1, y1⟩ := cp_chX q1.1 hc b1 d1 c1 w1 t1 k1 p1 l1 g1 a1 wd1 hg1 s1
    rw [f_BargeBasin_trim_search01_L115, if_neg (show ¬ (64 : Int32) ≤ nI k from nI_ge (b := 64) (by omega) (by decide)), ev_b _ e1, un13_ap]
    simp only [ev_bnd, nI_1, cmpE]
    have wq : ∀ f, f < 64 → tb (cwl &&& (jlshl 1 (nI k) ^^^ (-1))) f = (if f = k then false else bwl (wT least k X).1 f) := by
      intro f hf
      rw [tb_and, tb_not hf, tb_one (by omega), hc.2.2.2.1 f hf]
      by_cases z : f = k
      · rw [if_pos z, decide_eq_true z]; simp
      · rw [if_neg z, decide_eq_false z]; simp
    cases ew : bwl (wT least k X).1 k with
    | false =>
      have eq : (cwl &&& (jlshl 1 (nI k) ^^^ (-1))) = cwl := tb_ext fun f hf => by
        rw [wq f hf, hc.2.2.2.1 f hf]
        by_cases z : f = k
        · rw [if_pos z, z, ew]
        · rw [if_neg z]
      rw [if_pos eq]
      have hw := wT_n (least := least) (k := k) (X := X) (fun z => by rw [ew] at z; cases z.1)
      exact ih (k + 1) n cwl _ _ _ _ _ _ _ _ _ _ _ _ _ _ _ _ _ _ _ _ _ _ _ _ _ _ _ _ _ _ _ _ _ _ _ _ (by omega) (by omega) (by rw [hw]; exact hc) hs
    | true =>
      have ne : ¬ (cwl &&& (jlshl 1 (nI k) ^^^ (-1))) = cwl := fun z => by
        have := wq k (by omega)
        rw [z, hc.2.2.2.1 k (by omega), ew, if_pos rfl] at this
        cases this
      have od := ok_del (f := k) q1
      obtain ⟨tt, fo', qd', sp', w0', h0', n0', wl0', t0', k0', p0', l0', g0', a0', wd0', hg0', s0', lo', hi', sl', sf', mv', di', qu', e3, sc, t2⟩ := s_stays od.1 od.2.1 (chX_wl (C := X.1) y1 k wq) hle hs qd sp w0 h0 n0 wl0 t0 k0 p0 l0 g0 a0 wd0 hg0 s0 lo hi mv di qu
      rw [if_neg ne, ev_b _ e3, un24_ap]
      cases tt with
      | false =>
        have hw := wT_n (least := least) (k := k) (X := X) (fun z => by have := t2.mpr (hrdB_t.mp z.2); cases this)
        rw [if_pos (show bI false = 0 by decide)]
        exact ih (k + 1) n cwl _ _ _ _ _ _ _ _ _ _ _ _ _ _ _ _ _ _ _ _ _ _ _ _ _ _ _ _ _ _ _ _ _ _ _ _ (by omega) (by omega) (by rw [hw]; exact hc) sc
      | true =>
        have hw := wT_y (least := least) (k := k) (X := X) ⟨ew, hrdB_t.mpr (t2.mp rfl)⟩
        rw [if_neg (show ¬ bI true = 0 by decide)]
        exact ih (k + 1) n _ _ _ _ _ _ _ _ _ _ _ _ _ _ _ _ _ _ _ _ _ _ _ _ _ _ _ _ _ _ _ _ _ _ _ _ _ (by omega) (by omega) (by rw [hw]; exact chX_wl (C := X.1) hc k wq) sc
theorem s_trim_01 {X : BP} {cw chh cn : Int32} {cwl ct : Int64} {ck cp cl cg ca cwd chg : Nat → Int32} {cs : Nat → Int64} (hX : okX X) (hc : chX X.1 X.2 cw chh cn cwl ct ck cp cl cg ca cwd chg cs) (st ld lu : Int32) (csort csize cnum : Nat → Int32) (b1 d1 c1 : Int32) (w1 t1 : Int64) (k1 p1 l1 g1 a1 wd1 hg1 : Nat → Int32) (s1 : Nat → Int64) :
    (∃ (st1 : Int32) (fo' qd' sp' w0' h0' n0' : Int32) (wl0' t0' : Int64) (k0' p0' l0' g0' a0' wd0' hg0' : Nat → Int32) (s0' lo' hi' : Nat → Int64) (sl' sf' mv' di' qu' : Nat → Int32), farX X.1 X.2 (-1) st1 ∧ st1 ≠ 0 ∧ f_BargeBasin_trim_search01 st csort csize cnum cw chh cn cwl ct ck cp cl cg ca cwd chg cs b1 d1 c1 w1 t1 k1 p1 l1 g1 a1 wd1 hg1 s1 ld lu = some (-1, st1, csort, csize, cnum, cn, cwl, ct, ck, cp, cl, cg, ca, cwd, chg, cs, b1, d1, c1, w1, t1, k1, p1, l1, g1, a1, wd1, hg1, s1, ld, lu, fo', qd', sp', w0', h0', n0', wl0', t0', k0', p0', l0', g0', a0', wd0', hg0', s0', lo', hi', sl', sf', mv', di', qu') ∧ schI fo' sl' sf') ∨
    (∃ (least v2 v3 : Nat) (Z : BP) (b : Nat) (csort' csize' cnum' : Nat → Int32) (cn' : Int32) (cwl' ct' : Int64) (ck' cp' cl' cg' ca' cwd' chg' : Nat → Int32) (cs' : Nat → Int64) (b1' d1' c1' : Int32) (w1' t1' : Int64) (k1' p1' l1' g1' a1' wd1' hg1' : Nat → Int32) (s1' : Nat → Int64) (fo' qd' sp' w0' h0' n0' : Int32) (wl0' t0' : Int64) (k0' p0' l0' g0' a0' wd0' hg0' : Nat → Int32) (s0' lo' hi' : Nat → Int64) (sl' sf' mv' di' qu' : Nat → Int32), (FL X.1 7 X.2).length ≤ 6000 ∧ bstX X.1 X.2 b least ∧ least < 6000 ∧ trX X least Z v2 v3 ∧ f_BargeBasin_trim_search01 st csort csize cnum cw chh cn cwl ct ck cp cl cg ca cwd chg cs b1 d1 c1 w1 t1 k1 p1 l1 g1 a1 wd1 hg1 s1 ld lu = some (nI (v2 + v3), 0, csort', csize', cnum', cn', cwl', ct', ck', cp', cl', cg', ca', cwd', chg', cs', b1', d1', c1', w1', t1', k1', p1', l1', g1', a1', wd1', hg1', s1', 0, 0, fo', qd', sp', w0', h0', n0', wl0', t0', k0', p0', l0', g0', a0', wd0', hg0', s0', lo', hi', sl', sf', mv', di', qu') ∧ chX Z.1 Z.2 cw chh cn' cwl' ct' ck' cp' cl' cg' ca' cwd' chg' cs' ∧ schI fo' sl' sf' ∧ ((v3 = 0 ∧ csort' = csort ∧ csize' = csize ∧ cnum' = cnum) ∨ (0 < v3 ∧ (∀ z, z < bh Z.1 → csort' z = 0 ∧ csize' z = nI (bw Z.1) ∧ ∀ i, i < bw Z.1 → cnum' (8 * z + i) = bI (bwl Z.1 (i + 8 * z))) ∧ (∀ z, bh Z.1 ≤ z → z < 8 → csort' z = -1)))) := by
  have n12 := hX.1.2.2.2.2.1
  obtain ⟨r, fo2, qd2, sp2, w02, h02, n02, wl02, t02, k02, p02, l02, g02, a02, wd02, hg02, s02, lo2, hi2, sl2, sf2, mv2, di2, qu2, e, sc, q⟩ := s_fault11 (sg := false) (all := true) hX.1 hX.2.1 hc (most := 7) rfl schI_0 0 0 0 0 0 0 0 (fun _ => 0) (fun _ => 0) (fun _ => 0) (fun _ => 0) (fun _ => 0) (fun _ => 0) (fun _ => 0) (fun _ => 0) (fun _ => 0) (fun _ => 0) (fun _ => 0) (fun _ => 0) (fun _ => 0)
  rw [show bI false = (0 : Int32) from rfl, show bI true = (1 : Int32) from rfl] at e
  unfold f_BargeBasin_trim_search01
  rw [s_fault01 (by rw [hc.1]; exact noBas hX.1), ev_b _ e, un24_ap]
  rcases q with ⟨q1, q2⟩ | ⟨D, sx, q2⟩
  · subst q2
    rw [if_neg (show ¬ (10 : Int32) = 0 by decide)]
    exact Or.inl ⟨10, fo2, qd2, sp2, w02, h02, n02, wl02, t02, k02, p02, l02, g02, a02, wd02, hg02, s02, lo2, hi2, sl2, sf2, mv2, di2, qu2, Or.inl ⟨q1, rfl, rfl⟩, by decide, rfl, sc⟩
  · have sx' := sx
    obtain ⟨x1, x2, x3, x4, x5, x6, x7, x8, x9, x10, x11, x12⟩ := sx'
    cases eb : bestO D (FL X.1 7 X.2).length with
    | none =>
      have : r = 11 := by rw [q2]; simp [eb]
      subst this
      rw [if_neg (show ¬ (11 : Int32) = 0 by decide)]
      exact Or.inl ⟨11, fo2, qd2, sp2, w02, h02, n02, wl02, t02, k02, p02, l02, g02, a02, wd02, hg02, s02, lo2, hi2, sl2, sf2, mv2, di2, qu2, Or.inr (Or.inl ⟨x1, (bst_none x2).mp eb, rfl, rfl⟩), by decide, rfl, sc⟩
    | some b =>
      have : r = 0 := by rw [q2]; simp [eb]
      subst this
      have l := bestO_lt eb
      have ft := s_farthest x1 x3 (fun u k hu e => by have := x4 u k hu e; omega)
      rw [eb, show (some b).bind D = D b from rfl, some_dv l.2] at ft
      rw [← x5] at ft
      have bx : bstX X.1 X.2 b (dvO D b) := ⟨D, x2, eb, some_dv l.2⟩
      have kl := bst_lt hX.1 hX.2.1 x1 bx
      generalize dvO D b = least at *
      have ft' : f_Search_farthest fo2 di2 = some (nI least) := ft
      have bc := s_bitCount hc.2.2.2.1
      have kn1 : cn - 1 = nI (bn X.1) + (-1) := by rw [hc.2.2.1, Int32.sub_eq_add_neg]
      obtain ⟨cn3, ct3, ck3, cp3, cl3, cg3, ca3, cwd3, chg3, cs3, b13, d13, c13, w13, t13, k13, p13, l13, g13, a13, wd13, hg13, s13, fo3, qd3, sp3, w03, h03, n03, wl03, t03, k03, p03, l03, g03, a03, wd03, hg03, s03, lo3, hi3, sl3, sf3, mv3, di3, qu3, e3, y3, sc3⟩ := s_trB01 (least := least) (v3 := cn) (v4 := nI (nmF (bwl X.1) 64)) kl (bn X.1) jN X cn ct ck cp cl cg ca cwd chg cs b1 d1 c1 w1 t1 k1 p1 l1 g1 a1 wd1 hg1 s1 fo2 qd2 sp2 w02 h02 n02 wl02 t02 k02 p02 l02 g02 a02 wd02 hg02 s02 lo2 hi2 sl2 sf2 mv2 di2 qu2 (Nat.le_refl _) (by show bn X.1 < 2000000; omega) hX hc sc
      obtain ⟨o1, o2, o3⟩ := ok_bT (least := least) (bn X.1) X (Nat.le_refl _) hX
      obtain ⟨cwl4, b14, d14, c14, w14, t14, k14, p14, l14, g14, a14, wd14, hg14, s14, fo4, qd4, sp4, w04, h04, n04, wl04, t04, k04, p04, l04, g04, a04, wd04, hg04, s04, lo4, hi4, sl4, sf4, mv4, di4, qu4, e4, y4, sc4⟩ := s_trW01 (least := least) (X := bT least (bn X.1) X) (v3 := cn) (v4 := nI (nmF (bwl X.1) 64)) kl o1 64 0 jN cwl b13 d13 c13 w13 t13 k13 p13 l13 g13 a13 wd13 hg13 s13 fo3 qd3 sp3 w03 h03 n03 wl03 t03 k03 p03 l03 g03 a03 wd03 hg03 s03 lo3 hi3 sl3 sf3 mv3 di3 qu3 (by omega) (by show 64 < 2000000; omega) y3 sc3
      obtain ⟨w1', w2, w3, w4, w5, w6⟩ := wT_ok (least := least) o1 64 (Nat.le_refl _)
      have bc4 := s_bitCount y4.2.2.2.1
      have nm : nmF (bwl (wT least 64 (bT least (bn X.1) X)).1) 64 ≤ nmF (bwl X.1) 64 := by rw [← o2.2.2]; exact w5
      have le64 := nmF_le (bwl X.1) 64
      rw [if_pos rfl, ev_b _ (show f_BargeBasin_searcher_search11 = some () from rfl), un0_ap, ev_b _ ft', ev_b _ bc, ev_bnd, kn1, ev_b _ e3]
      rw [un46_ap, ev_b (x := f_BargeBasin_trim_search01_L115 (nI least) cn (nI (nmF (bwl X.1) 64)) cw chh cn3 ct3 ck3 cp3 cl3 cg3 ca3 cwd3 chg3 cs3 jN 0 cwl b13 d13 c13 w13 t13 k13 p13 l13 g13 a13 wd13 hg13 s13 fo3 qd3 sp3 w03 h03 n03 wl03 t03 k03 p03 l03 g03 a03 wd03 hg03 s03 lo3 hi3 sl3 sf3 mv3 di3 qu3) _ e4, un37_ap, ev_b _ bc4, ev_bnd, nI_subE nm]
      generalize hZ : wT least 64 (bT least (bn X.1) X) = Z at *
      generalize hv : nmF (bwl X.1) 64 - nmF (bwl Z.1) 64 = v3 at *
      have tr : trX X least Z (bn X.1 - bn Z.1) v3 := ⟨hZ.symm, by rw [w4]; omega, by omega⟩
      have v0 : (nI v3 ≤ 0) = (v3 ≤ 0) := nI_leE (b := 0) (by omega) (by decide)
      have an : cn - cn3 + nI v3 = nI (bn X.1 - bn Z.1 + v3) := by rw [hc.2.2.1, y4.2.2.1, nI_subE (by rw [w4]; exact o3), nI_add]
      simp only [v0]
      by_cases z : v3 ≤ 0
      · rw [if_pos z]
        refine Or.inr ⟨least, bn X.1 - bn Z.1, v3, Z, b, csort, csize, cnum, cn3, cwl4, ct3, ck3, cp3, cl3, cg3, ca3, cwd3, chg3, cs3, b14, d14, c14, w14, t14, k14, p14, l14, g14, a14, wd14, hg14, s14, fo4, qd4, sp4, w04, h04, n04, wl04, t04, k04, p04, l04, g04, a04, wd04, hg04, s04, lo4, hi4, sl4, sf4, mv4, di4, qu4, x1, bx, kl, tr, ?_, y4, sc4, Or.inl ⟨by omega, rfl, rfl, rfl⟩⟩
        unfold f_BargeBasin_trim_search01_J230
        rw [an]
        rfl
      · obtain ⟨S, Zl, N, l1', l2', l3'⟩ := s_showWalls w1'.1 y4.2.2.2.1 csort csize cnum
        have l1'' : f_Lines_showWalls csort csize cnum cw chh cwl4 = some (S, Zl, N) := by rw [y4.1, y4.2.1]; exact l1'
        rw [if_neg z, ev_b _ l1'', un3_ap]
        refine Or.inr ⟨least, bn X.1 - bn Z.1, v3, Z, b, S, Zl, N, cn3, cwl4, ct3, ck3, cp3, cl3, cg3, ca3, cwd3, chg3, cs3, b14, d14, c14, w14, t14, k14, p14, l14, g14, a14, wd14, hg14, s14, fo4, qd4, sp4, w04, h04, n04, wl04, t04, k04, p04, l04, g04, a04, wd04, hg04, s04, lo4, hi4, sl4, sf4, mv4, di4, qu4, x1, bx, kl, tr, ?_, y4, sc4, Or.inr ⟨by omega, l2', l3'⟩⟩
        unfold f_BargeBasin_trim_search01_J230
        rw [an]
        rfl
