/-! trim of the class. -/
theorem nmF_le (p : Nat → Bool) : ∀ n, nmF p n ≤ n
  | 0 => Nat.le_refl _
  | n + 1 => by
    have := nmF_le p n
    unfold nmF
    split <;> omega
theorem s_trim_11 {X : BP} {cw chh cn : Int32} {cwl ct : Int64} {ck cp cl cg ca cwd chg : Nat → Int32} {cs : Nat → Int64} (hX : okX X) (hc : chX X.1 X.2 cw chh cn cwl ct ck cp cl cg ca cwd chg cs) (st ld lu : Int32) (csort csize cnum : Nat → Int32) (b1 d1 c1 : Int32) (w1 t1 : Int64) (k1 p1 l1 g1 a1 wd1 hg1 : Nat → Int32) (s1 : Nat → Int64) (fo qd sp w0 h0 n0 : Int32) (wl0 t0 : Int64) (k0 p0 l0 g0 a0 wd0 hg0 : Nat → Int32) (s0 lo hi : Nat → Int64) (sl sf mv di qu : Nat → Int32) (hs : schI fo sl sf) :
    (∃ (st1 : Int32) (fo' qd' sp' w0' h0' n0' : Int32) (wl0' t0' : Int64) (k0' p0' l0' g0' a0' wd0' hg0' : Nat → Int32) (s0' lo' hi' : Nat → Int64) (sl' sf' mv' di' qu' : Nat → Int32), farX X.1 X.2 (-1) st1 ∧ st1 ≠ 0 ∧ f_BargeBasin_trim_search11 st csort csize cnum cw chh cn cwl ct ck cp cl cg ca cwd chg cs b1 d1 c1 w1 t1 k1 p1 l1 g1 a1 wd1 hg1 s1 ld lu fo qd sp w0 h0 n0 wl0 t0 k0 p0 l0 g0 a0 wd0 hg0 s0 lo hi sl sf mv di qu = some (-1, st1, csort, csize, cnum, cn, cwl, ct, ck, cp, cl, cg, ca, cwd, chg, cs, b1, d1, c1, w1, t1, k1, p1, l1, g1, a1, wd1, hg1, s1, ld, lu, fo', qd', sp', w0', h0', n0', wl0', t0', k0', p0', l0', g0', a0', wd0', hg0', s0', lo', hi', sl', sf', mv', di', qu') ∧ schI fo' sl' sf') ∨
    (∃ (least v2 v3 : Nat) (Z : BP) (b : Nat) (csort' csize' cnum' : Nat → Int32) (cn' : Int32) (cwl' ct' : Int64) (ck' cp' cl' cg' ca' cwd' chg' : Nat → Int32) (cs' : Nat → Int64) (b1' d1' c1' : Int32) (w1' t1' : Int64) (k1' p1' l1' g1' a1' wd1' hg1' : Nat → Int32) (s1' : Nat → Int64) (fo' qd' sp' w0' h0' n0' : Int32) (wl0' t0' : Int64) (k0' p0' l0' g0' a0' wd0' hg0' : Nat → Int32) (s0' lo' hi' : Nat → Int64) (sl' sf' mv' di' qu' : Nat → Int32), (FL X.1 7 X.2).length ≤ 6000 ∧ bstX X.1 X.2 b least ∧ least < 6000 ∧ trX X least Z v2 v3 ∧ f_BargeBasin_trim_search11 st csort csize cnum cw chh cn cwl ct ck cp cl cg ca cwd chg cs b1 d1 c1 w1 t1 k1 p1 l1 g1 a1 wd1 hg1 s1 ld lu fo qd sp w0 h0 n0 wl0 t0 k0 p0 l0 g0 a0 wd0 hg0 s0 lo hi sl sf mv di qu = some (nI (v2 + v3), 0, csort', csize', cnum', cn', cwl', ct', ck', cp', cl', cg', ca', cwd', chg', cs', b1', d1', c1', w1', t1', k1', p1', l1', g1', a1', wd1', hg1', s1', 0, 0, fo', qd', sp', w0', h0', n0', wl0', t0', k0', p0', l0', g0', a0', wd0', hg0', s0', lo', hi', sl', sf', mv', di', qu') ∧ chX Z.1 Z.2 cw chh cn' cwl' ct' ck' cp' cl' cg' ca' cwd' chg' cs' ∧ schI fo' sl' sf' ∧ ((v3 = 0 ∧ csort' = csort ∧ csize' = csize ∧ cnum' = cnum) ∨ (0 < v3 ∧ (∀ z, z < bh Z.1 → csort' z = 0 ∧ csize' z = nI (bw Z.1) ∧ ∀ i, i < bw Z.1 → cnum' (8 * z + i) = bI (bwl Z.1 (i + 8 * z))) ∧ (∀ z, bh Z.1 ≤ z → z < 8 → csort' z = -1)))) := by
  have n12 := hX.1.2.2.2.2.1
  obtain ⟨r, fo2, qd2, sp2, w02, h02, n02, wl02, t02, k02, p02, l02, g02, a02, wd02, hg02, s02, lo2, hi2, sl2, sf2, mv2, di2, qu2, e, sc, q⟩ := s_fault11 (sg := false) (all := true) hX.1 hX.2.1 hc (most := 7) rfl hs qd sp w0 h0 n0 wl0 t0 k0 p0 l0 g0 a0 wd0 hg0 s0 lo hi mv di qu
  rw [show bI false = (0 : Int32) from rfl, show bI true = (1 : Int32) from rfl] at e
  unfold f_BargeBasin_trim_search11
  rw [ev_b _ e, un24_ap]
  rcases q with ⟨q1, q2⟩ | ⟨D, sx, q2⟩
  · subst q2
    rw [if_neg (show ¬ (10 : Int32) = 0 by decide)]
    exact Or.inl ⟨10, fo2, qd2, sp2, w02, h02, n02, wl02, t02, k02, p02, l02, g02, a02, wd02, hg02, s02, lo2, hi2, sl2, sf2, mv2, di2, qu2, Or.inl ⟨q1, rfl, rfl⟩, by decide, rfl, sc⟩
  · have sx' := sx
    obtain ⟨x1, x2, x3, x4, x5, x6, x7, x8, x9, x10, x11, x12⟩ := sx'
    cases eb : bestO D (FL X.1 7 X.2).length with
    | none =>
      have : r = 11 := by rw [q2]; simp [eb]
      subst this
      rw [if_neg (show ¬ (11 : Int32) = 0 by decide)]
      exact Or.inl ⟨11, fo2, qd2, sp2, w02, h02, n02, wl02, t02, k02, p02, l02, g02, a02, wd02, hg02, s02, lo2, hi2, sl2, sf2, mv2, di2, qu2, Or.inr (Or.inl ⟨x1, (bst_none x2).mp eb, rfl, rfl⟩), by decide, rfl, sc⟩
    | some b =>
      have : r = 0 := by rw [q2]; simp [eb]
      subst this
      have l := bestO_lt eb
      have ft := s_farthest x1 x3 (fun u k hu e => by have := x4 u k hu e; omega)
      rw [eb, show (some b).bind D = D b from rfl, some_dv l.2] at ft
      rw [← x5] at ft
      have bx : bstX X.1 X.2 b (dvO D b) := ⟨D, x2, eb, some_dv l.2⟩
      have kl := bst_lt hX.1 hX.2.1 x1 bx
      generalize dvO D b = least at *
      have ft' : f_Search_farthest fo2 di2 = some (nI least) := ft
      have bc := s_bitCount hc.2.2.2.1
      have kn1 : cn - 1 = nI (bn X.1) + (-1) := by rw [hc.2.2.1, Int32.sub_eq_add_neg]
      obtain ⟨cn3, ct3, ck3, cp3, cl3, cg3, ca3, cwd3, chg3, cs3, b13, d13, c13, w13, t13, k13, p13, l13, g13, a13, wd13, hg13, s13, fo3, qd3, sp3, w03, h03, n03, wl03, t03, k03, p03, l03, g03, a03, wd03, hg03, s03, lo3, hi3, sl3, sf3, mv3, di3, qu3, e3, y3, sc3⟩ := s_trB (least := least) (v3 := cn) (v4 := nI (nmF (bwl X.1) 64)) kl (bn X.1) jN X cn ct ck cp cl cg ca cwd chg cs b1 d1 c1 w1 t1 k1 p1 l1 g1 a1 wd1 hg1 s1 fo2 qd2 sp2 w02 h02 n02 wl02 t02 k02 p02 l02 g02 a02 wd02 hg02 s02 lo2 hi2 sl2 sf2 mv2 di2 qu2 (Nat.le_refl _) (by show bn X.1 < 2000000; omega) hX hc sc
      obtain ⟨o1, o2, o3⟩ := ok_bT (least := least) (bn X.1) X (Nat.le_refl _) hX
      obtain ⟨cwl4, b14, d14, c14, w14, t14, k14, p14, l14, g14, a14, wd14, hg14, s14, fo4, qd4, sp4, w04, h04, n04, wl04, t04, k04, p04, l04, g04, a04, wd04, hg04, s04, lo4, hi4, sl4, sf4, mv4, di4, qu4, e4, y4, sc4⟩ := s_trW (least := least) (X := bT least (bn X.1) X) (v3 := cn) (v4 := nI (nmF (bwl X.1) 64)) kl o1 64 0 jN cwl b13 d13 c13 w13 t13 k13 p13 l13 g13 a13 wd13 hg13 s13 fo3 qd3 sp3 w03 h03 n03 wl03 t03 k03 p03 l03 g03 a03 wd03 hg03 s03 lo3 hi3 sl3 sf3 mv3 di3 qu3 (by omega) (by show 64 < 2000000; omega) y3 sc3
      obtain ⟨w1', w2, w3, w4, w5, w6⟩ := wT_ok (least := least) o1 64 (Nat.le_refl _)
      have bc4 := s_bitCount y4.2.2.2.1
      have nm : nmF (bwl (wT least 64 (bT least (bn X.1) X)).1) 64 ≤ nmF (bwl X.1) 64 := by rw [← o2.2.2]; exact w5
      have le64 := nmF_le (bwl X.1) 64
      rw [if_pos rfl, ev_b _ (show f_BargeBasin_searcher_search11 = some () from rfl), un0_ap, ev_b _ ft', ev_b _ bc, ev_bnd, kn1, ev_b _ e3]
      rw [un46_ap, ev_b (x := f_BargeBasin_trim_search11_L115 (nI least) cn (nI (nmF (bwl X.1) 64)) cw chh cn3 ct3 ck3 cp3 cl3 cg3 ca3 cwd3 chg3 cs3 jN 0 cwl b13 d13 c13 w13 t13 k13 p13 l13 g13 a13 wd13 hg13 s13 fo3 qd3 sp3 w03 h03 n03 wl03 t03 k03 p03 l03 g03 a03 wd03 hg03 s03 lo3 hi3 sl3 sf3 mv3 di3 qu3) _ e4, un37_ap, ev_b _ bc4, ev_bnd, nI_subE nm]
      generalize hZ : wT least 64 (bT least (bn X.1) X) = Z at *
      generalize hv : nmF (bwl X.1) 64 - nmF (bwl Z.1) 64 = v3 at *
      have tr : trX X least Z (bn X.1 - bn Z.1) v3 := ⟨hZ.symm, by rw [w4]; omega, by omega⟩
      have v0 : (nI v3 ≤ 0) = (v3 ≤ 0) := nI_leE (b := 0) (by omega) (by decide)
      have an : cn - cn3 + nI v3 = nI (bn X.1 - bn Z.1 + v3) := by rw [hc.2.2.1, y4.2.2.1, nI_subE (by rw [w4]; exact o3), nI_add]
      simp only [v0]
      by_cases z : v3 ≤ 0
      · rw [if_pos z]
        refine Or.inr ⟨least, bn X.1 - bn Z.1, v3, Z, b, csort, csize, cnum, cn3, cwl4, ct3, ck3, cp3, cl3, cg3, ca3, cwd3, chg3, cs3, b14, d14, c14, w14, t14, k14, p14, l14, g14, a14, wd14, hg14, s14, fo4, qd4, sp4, w04, h04, n04, wl04, t04, k04, p04, l04, g04, a04, wd04, hg04, s04, lo4, hi4, sl4, sf4, mv4, di4, qu4, x1, bx, kl, tr, ?_, y4, sc4, Or.inl ⟨by omega, rfl, rfl, rfl⟩⟩
        unfold f_BargeBasin_trim_search11_J230
        rw [an]
        rfl
      · obtain ⟨S, Zl, N, l1', l2', l3'⟩ := s_showWalls w1'.1 y4.2.2.2.1 csort csize cnum
        have l1'' : f_Lines_showWalls csort csize cnum cw chh cwl4 = some (S, Zl, N) := by rw [y4.1, y4.2.1]; exact l1'
        rw [if_neg z, ev_b _ l1'', un3_ap]
        refine Or.inr ⟨least, bn X.1 - bn Z.1, v3, Z, b, S, Zl, N, cn3, cwl4, ct3, ck3, cp3, cl3, cg3, ca3, cwd3, chg3, cs3, b14, d14, c14, w14, t14, k14, p14, l14, g14, a14, wd14, hg14, s14, fo4, qd4, sp4, w04, h04, n04, wl04, t04, k04, p04, l04, g04, a04, wd04, hg04, s04, lo4, hi4, sl4, sf4, mv4, di4, qu4, x1, bx, kl, tr, ?_, y4, sc4, Or.inr ⟨by omega, l2', l3'⟩⟩
        unfold f_BargeBasin_trim_search11_J230
        rw [an]
        rfl
