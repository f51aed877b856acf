/-! trim: its loop over the barges. -/
noncomputable def hrdB (B : Bas) (P : Nat → Nat) (least : Nat) : Bool := @decide (hrdP B P least) (Classical.propDecidable _)
theorem hrdB_t {B : Bas} {P : Nat → Nat} {least : Nat} : hrdB B P least = true ↔ hrdP B P least := @decide_eq_true_iff _ (Classical.propDecidable _)
/-- barges b-1 .. 0 are taken away where the basin stays as hard -/
noncomputable def bT (least : Nat) : Nat → BP → BP
  | 0, X => X
  | b + 1, X => bT least b (if bK X.1 b ≠ 5 ∧ hrdB (dropB X.1 b) (dropP X.2 b) least = true then (dropB X.1 b, dropP X.2 b) else X)
theorem ok_drop {X : BP} {b : Nat} (h : okX X) (hb : b < bn X.1) : okX (dropB X.1 b, dropP X.2 b) := ⟨drop_bas h.1 hb, drop_st h.2.1 hb, h.2.2⟩
theorem ok_bT {least : Nat} : ∀ (b : Nat) (X : BP), b ≤ bn X.1 → okX X → okX (bT least b X) ∧ samW X.1 (bT least b X).1 ∧ bn (bT least b X).1 ≤ bn X.1
  | 0, X, _, h => ⟨h, ⟨rfl, rfl, rfl⟩, Nat.le_refl _⟩
  | b + 1, X, hb, h => by
    unfold bT
    by_cases c : bK X.1 b ≠ 5 ∧ hrdB (dropB X.1 b) (dropP X.2 b) least = true
    · rw [if_pos c]
      have n1 : bn (dropB X.1 b) = bn X.1 - 1 := rfl
      obtain ⟨q1, q2, q3⟩ := ok_bT (least := least) b (dropB X.1 b, dropP X.2 b) (by show b ≤ bn (dropB X.1 b); omega) (ok_drop h (by omega))
      have q3' : bn (bT least b (dropB X.1 b, dropP X.2 b)).1 ≤ bn (dropB X.1 b) := q3
      exact ⟨q1, q2, by omega⟩
    · rw [if_neg c]; exact ok_bT b X (by omega) h
theorem nI_m1 (c : Nat) : nI (c + 1) + (-1) = nI c := by
  rw [← nI_1, Int32.add_assoc]
  show nI c + ((1 : Int32) + (-1)) = nI c
  rw [show (1 : Int32) + (-1) = 0 by decide, Int32.add_zero]
theorem s_trB {least : Nat} {v3 v4 cw chh : Int32} {cwl : Int64} (hle : least < 6000) : ∀ (b n : Nat) (X : BP) (cn : Int32) (ct : Int64) (ck cp cl cg ca cwd chg : Nat → Int32) (cs : Nat → Int64) (b1 d1 c1 : Int32) (w1 t1 : Int64) (k1 p1 l1 g1 a1 wd1 hg1 : Nat → Int32) (s1 : Nat → Int64) (fo qd sp w0 h0 n0 : Int32) (wl0 t0 : Int64) (k0 p0 l0 g0 a0 wd0 hg0 : Nat → Int32) (s0 lo hi : Nat → Int64) (sl sf mv di qu : Nat → Int32), b ≤ bn X.1 → b < n → okX X → chX X.1 X.2 cw chh cn cwl ct ck cp cl cg ca cwd chg cs → schI fo sl sf →
    ∃ cn' ct' ck' cp' cl' cg' ca' cwd' chg' cs' b1' d1' c1' w1' t1' k1' p1' l1' g1' a1' wd1' hg1' s1' fo' qd' sp' w0' h0' n0' wl0' t0' k0' p0' l0' g0' a0' wd0' hg0' s0' lo' hi' sl' sf' mv' di' qu', f_BargeBasin_trim_search11_L50 (nI least) v3 v4 cw chh cwl n (nI b + (-1)) cn ct ck cp cl cg ca cwd chg cs b1 d1 c1 w1 t1 k1 p1 l1 g1 a1 wd1 hg1 s1 fo qd sp w0 h0 n0 wl0 t0 k0 p0 l0 g0 a0 wd0 hg0 s0 lo hi sl sf mv di qu = some (cn', ct', ck', cp', cl', cg', ca', cwd', chg', cs', b1', d1', c1', w1', t1', k1', p1', l1', g1', a1', wd1', hg1', s1', fo', qd', sp', w0', h0', n0', wl0', t0', k0', p0', l0', g0', a0', wd0', hg0', s0', lo', hi', sl', sf', mv', di', qu') ∧ chX (bT least b X).1 (bT least b X).2 cw chh cn' cwl ct' ck' cp' cl' cg' ca' cwd' chg' cs' ∧ schI fo' sl' sf' := by
  intro b
  induction b with
  | zero =>
    intro n X cn ct ck cp cl cg ca cwd chg cs b1 d1 c1 w1 t1 k1 p1 l1 g1 a1 wd1 hg1 s1 fo qd sp w0 h0 n0 wl0 t0 k0 p0 l0 g0 a0 wd0 hg0 s0 lo hi sl sf mv di qu hb hn h hc hs
    obtain ⟨n, rfl⟩ : ∃ z, n = z + 1 := ⟨n - 1, by omega⟩
    refine ⟨cn, ct, ck, cp, cl, cg, ca, cwd, chg, cs, b1, d1, c1, w1, t1, k1, p1, l1, g1, a1, wd1, hg1, s1, fo, qd, sp, w0, h0, n0, wl0, t0, k0, p0, l0, g0, a0, wd0, hg0, s0, lo, hi, sl, sf, mv, di, qu, ?_, hc, hs⟩
    rw [f_BargeBasin_trim_search11_L50, if_pos (show nI 0 + (-1) < 0 by decide)]
  | succ b ih =>
    intro n X cn ct ck cp cl cg ca cwd chg cs b1 d1 c1 w1 t1 k1 p1 l1 g1 a1 wd1 hg1 s1 fo qd sp w0 h0 n0 wl0 t0 k0 p0 l0 g0 a0 wd0 hg0 s0 lo hi sl sf mv di qu hb hn h hc hs
    obtain ⟨n, rfl⟩ : ∃ z, n = z + 1 := ⟨n - 1, by omega⟩
    have hb' : b < bn X.1 := by omega
    have n12 := h.1.2.2.2.2.1
    obtain ⟨z1, z2, -⟩ := basOk_wh h.1 hb'
    obtain ⟨k2, p2, l2, g2, a2', wd2, hg2, s2, e1, y1⟩ := cp_chX h.1 hc b1 d1 c1 w1 t1 k1 p1 l1 g1 a1 wd1 hg1 s1
    obtain ⟨cn3, ct3, ck3, cp3, cl3, cg3, ca3, cwd3, chg3, cs3, e2, y2⟩ := s_drop h.1 h.2.1 y1 hb'
    have c5 : (nI (bK X.1 b) = 5) = (bK X.1 b = 5) := nI_eqL (j := 5) (by omega) (by decide)
    rw [nI_m1, f_BargeBasin_trim_search11_L50, if_neg (nI_nn (by omega)), ev_b _ e1, un13_ap, ev_b _ e2, un10_ap, ev_grdN _ z1 (by decide), cl_nI z1, (hc.2.2.2.2.2.1 b hb').1]
    simp only [c5, ev_bnd]
    unfold bT
    by_cases k5 : bK X.1 b = 5
    · rw [if_pos k5, if_neg (fun z => z.1 k5)]
      exact ih n X _ _ _ _ _ _ _ _ _ _ _ _ _ _ _ _ _ _ _ _ _ _ _ _ _ _ _ _ _ _ _ _ _ _ _ _ _ _ _ _ _ _ _ _ _ _ (by omega) (by omega) h hc hs
    · have od := ok_drop h hb'
      obtain ⟨tt, fo', qd', sp', w0', h0', n0', wl0', t0', k0', p0', l0', g0', a0', wd0', hg0', s0', lo', hi', sl', sf', mv', di', qu', e3, sc, t2⟩ := s_stays od.1 od.2.1 y2 hle hs qd sp w0 h0 n0 wl0 t0 k0 p0 l0 g0 a0 wd0 hg0 s0 lo hi mv di qu
      rw [if_neg k5, ev_b _ e3, un24_ap]
      cases tt with
      | false =>
        have nh : ¬ (bK X.1 b ≠ 5 ∧ hrdB (dropB X.1 b) (dropP X.2 b) least = true) := fun z => by have := t2.mpr (hrdB_t.mp z.2); cases this
        rw [if_pos (show bI false = 0 by decide), if_neg nh]
        exact ih n X _ _ _ _ _ _ _ _ _ _ _ _ _ _ _ _ _ _ _ _ _ _ _ _ _ _ _ _ _ _ _ _ _ _ _ _ _ _ _ _ _ _ _ _ _ _ (by omega) (by omega) h hc sc
      | true =>
        have yh : bK X.1 b ≠ 5 ∧ hrdB (dropB X.1 b) (dropP X.2 b) least = true := ⟨k5, hrdB_t.mpr (t2.mp rfl)⟩
        obtain ⟨cn4, ct4, ck4, cp4, cl4, cg4, ca4, cwd4, chg4, cs4, e4, y4⟩ := s_drop h.1 h.2.1 hc hb'
        have n1 : bn (dropB X.1 b) = bn X.1 - 1 := rfl
        rw [if_neg (show ¬ bI true = 0 by decide), ev_b _ e4, un10_ap, if_pos yh]
        exact ih n (dropB X.1 b, dropP X.2 b) _ _ _ _ _ _ _ _ _ _ _ _ _ _ _ _ _ _ _ _ _ _ _ _ _ _ _ _ _ _ _ _ _ _ _ _ _ _ _ _ _ _ _ _ _ _ (by show b ≤ bn (dropB X.1 b); omega) (by omega) od y4 sc
