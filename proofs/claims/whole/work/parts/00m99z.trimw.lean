/-! trim: its loop over the walls. -/
def delW (B : Bas) (f : Nat) : Bas := (bw B, bh B, bn B, bK B, bS B, bY B, bG B, fun g => if g = f then false else bwl B g)
theorem ok_del {X : BP} {f : Nat} (h : okX X) : okX (delW X.1 f, X.2) := by
  obtain ⟨h1, ⟨⟨s1, s2, s3⟩, s4⟩, h3⟩ := h
  refine ⟨h1, ⟨⟨s1, s2, fun b g hb hg e => ?_⟩, s4⟩, fun g hg q => ?_⟩
  · show (if g = f then false else bwl X.1 g) = false
    by_cases z : g = f
    · rw [if_pos z]
    · rw [if_neg z]; exact s3 b g hb hg e
  · show (if g = f then false else bwl X.1 g) = false
    by_cases z : g = f
    · rw [if_pos z]
    · rw [if_neg z]; exact h3 g hg q
/-- walls 0 .. k-1 are taken away where the basin stays as hard -/
noncomputable def wT (least : Nat) : Nat → BP → BP
  | 0, X => X
  | k + 1, X => if bwl (wT least k X).1 k = true ∧ hrdB (delW (wT least k X).1 k) (wT least k X).2 least = true then (delW (wT least k X).1 k, (wT least k X).2) else wT least k X
theorem wT_n {least k : Nat} {X : BP} (h : ¬ (bwl (wT least k X).1 k = true ∧ hrdB (delW (wT least k X).1 k) (wT least k X).2 least = true)) : wT least (k + 1) X = wT least k X := if_neg h
theorem wT_y {least k : Nat} {X : BP} (h : bwl (wT least k X).1 k = true ∧ hrdB (delW (wT least k X).1 k) (wT least k X).2 least = true) : wT least (k + 1) X = (delW (wT least k X).1 k, (wT least k X).2) := if_pos h
theorem nmF_del {p : Nat → Bool} {k : Nat} : ∀ {n : Nat}, k < n → p k = true → nmF (fun g => if g = k then false else p g) n + 1 = nmF p n
  | 0, h, _ => by omega
  | n + 1, h, e => by
    show nmF (fun g => if g = k then false else p g) n + (if (if n = k then false else p n) = true then 1 else 0) + 1 = nmF p n + (if p n = true then 1 else 0)
    by_cases z : n = k
    · subst z
      rw [if_pos rfl, e, nmF_cg (p := fun g => if g = n then false else p g) (q := p) (fun i hi => if_neg (by omega))]
      rfl
    · have i := nmF_del (p := p) (k := k) (n := n) (by omega) e
      rw [if_neg z]
      omega
theorem wT_ok {least : Nat} {X : BP} (h : okX X) : ∀ k, k ≤ 64 → okX (wT least k X) ∧ bw (wT least k X).1 = bw X.1 ∧ bh (wT least k X).1 = bh X.1 ∧ bn (wT least k X).1 = bn X.1 ∧ nmF (bwl (wT least k X).1) 64 ≤ nmF (bwl X.1) 64 ∧ (nmF (bwl (wT least k X).1) 64 = nmF (bwl X.1) 64 → wT least k X = X)
  | 0, _ => ⟨h, rfl, rfl, rfl, Nat.le_refl _, fun _ => rfl⟩
  | k + 1, hk => by
    obtain ⟨q1, q2, q3, q4, q5, q6⟩ := wT_ok (least := least) h k (by omega)
    by_cases c : bwl (wT least k X).1 k = true ∧ hrdB (delW (wT least k X).1 k) (wT least k X).2 least = true
    · rw [wT_y c]
      have d : nmF (bwl (delW (wT least k X).1 k)) 64 + 1 = nmF (bwl (wT least k X).1) 64 := nmF_del (by omega) c.1
      have d' : nmF (bwl (delW (wT least k X).1 k, (wT least k X).2).1) 64 + 1 = nmF (bwl (wT least k X).1) 64 := d
      exact ⟨ok_del q1, q2, q3, q4, by omega, fun z => by omega⟩
    · rw [wT_n c]; exact ⟨q1, q2, q3, q4, q5, q6⟩
theorem wT_skip {least : Nat} {X : BP} : ∀ (d k : Nat), (∀ j, k ≤ j → j < k + d → bwl (wT least k X).1 j = false) → wT least (k + d) X = wT least k X
  | 0, _, _ => rfl
  | d + 1, k, q => by
    have i := wT_skip (least := least) (X := X) d k (fun j h1 h2 => q j h1 (by omega))
    rw [← Nat.add_assoc, wT_n (fun z => by
      have z1 := z.1
      rw [i, q (k + d) (by omega) (by omega)] at z1
      cases z1), i]
theorem chX_wl {B C : Bas} {P : Nat → Nat} {cw chh cn : Int32} {cwl cwl' ct : Int64} {ck cp cl cg ca cwd chg : Nat → Int32} {cs : Nat → Int64} (hc : chX B P cw chh cn cwl ct ck cp cl cg ca cwd chg cs) (k : Nat) (hw : ∀ f, f < 64 → tb cwl' f = (if f = k then false else bwl B f)) : chX (delW B k) P cw chh cn cwl' ct ck cp cl cg ca cwd chg cs := by
  obtain ⟨x1, x2, x3, x4, x5, x6, x7, x8, x9⟩ := hc
  exact ⟨x1, x2, x3, hw, x5, x6, x7, x8, x9⟩
theorem s_trW {least : Nat} {X : BP} {v3 v4 cw chh cn : Int32} {ct : Int64} {ck cp cl cg ca cwd chg : Nat → Int32} {cs : Nat → Int64} (hle : least < 6000) (hX : okX X) : ∀ (r k n : Nat) (cwl : Int64) (b1 d1 c1 : Int32) (w1 t1 : Int64) (k1 p1 l1 g1 a1 wd1 hg1 : Nat → Int32) (s1 : Nat → Int64) (fo qd sp w0 h0 n0 : Int32) (wl0 t0 : Int64) (k0 p0 l0 g0 a0 wd0 hg0 : Nat → Int32) (s0 lo hi : Nat → Int64) (sl sf mv di qu : Nat → Int32), k + r = 64 → r < n → chX (wT least k X).1 (wT least k X).2 cw chh cn cwl ct ck cp cl cg ca cwd chg cs → schI fo sl sf →
    ∃ cwl' b1' d1' c1' w1' t1' k1' p1' l1' g1' a1' wd1' hg1' s1' fo' qd' sp' w0' h0' n0' wl0' t0' k0' p0' l0' g0' a0' wd0' hg0' s0' lo' hi' sl' sf' mv' di' qu', f_BargeBasin_trim_search11_L115 (nI least) v3 v4 cw chh cn ct ck cp cl cg ca cwd chg cs n (nI k) cwl b1 d1 c1 w1 t1 k1 p1 l1 g1 a1 wd1 hg1 s1 fo qd sp w0 h0 n0 wl0 t0 k0 p0 l0 g0 a0 wd0 hg0 s0 lo hi sl sf mv di qu = some (cwl', b1', d1', c1', w1', t1', k1', p1', l1', g1', a1', wd1', hg1', s1', fo', qd', sp', w0', h0', n0', wl0', t0', k0', p0', l0', g0', a0', wd0', hg0', s0', lo', hi', sl', sf', mv', di', qu') ∧ chX (wT least 64 X).1 (wT least 64 X).2 cw chh cn cwl' ct ck cp cl cg ca cwd chg cs ∧ schI fo' sl' sf' := by
  intro r
  induction r with
  | zero =>
    intro k n cwl b1 d1 c1 w1 t1 k1 p1 l1 g1 a1 wd1 hg1 s1 fo qd sp w0 h0 n0 wl0 t0 k0 p0 l0 g0 a0 wd0 hg0 s0 lo hi sl sf mv di qu h1 h2 hc hs
    obtain ⟨n, rfl⟩ : ∃ z, n = z + 1 := ⟨n - 1, by omega⟩
    have e : k = 64 := by omega
    subst e
    refine ⟨cwl, b1, d1, c1, w1, t1, k1, p1, l1, g1, a1, wd1, hg1, s1, fo, qd, sp, w0, h0, n0, wl0, t0, k0, p0, l0, g0, a0, wd0, hg0, s0, lo, hi, sl, sf, mv, di, qu, ?_, hc, hs⟩
    rw [f_BargeBasin_trim_search11_L115, if_pos (show (64 : Int32) ≤ nI 64 by decide)]
  | succ r ih =>
    intro k n cwl b1 d1 c1 w1 t1 k1 p1 l1 g1 a1 wd1 hg1 s1 fo qd sp w0 h0 n0 wl0 t0 k0 p0 l0 g0 a0 wd0 hg0 s0 lo hi sl sf mv di qu h1 h2 hc hs
    obtain ⟨n, rfl⟩ : ∃ z, n = z + 1 := ⟨n - 1, by omega⟩
    obtain ⟨q1, -⟩ := wT_ok (least := least) hX k (by omega)
    obtain ⟨k2, p2, l2, g2, a2', wd2, hg2, s2, e1, y1⟩ := cp_chX q1.1 hc b1 d1 c1 w1 t1 k1 p1 l1 g1 a1 wd1 hg1 s1
    rw [f_BargeBasin_trim_search11_L115, if_neg (show ¬ (64 : Int32) ≤ nI k from nI_ge (b := 64) (by omega) (by decide)), ev_b _ e1, un13_ap]
    simp only [ev_bnd, nI_1, cmpE]
    have wq : ∀ f, f < 64 → tb (cwl &&& (jlshl 1 (nI k) ^^^ (-1))) f = (if f = k then false else bwl (wT least k X).1 f) := by
      intro f hf
      rw [tb_and, tb_not hf, tb_one (by omega), hc.2.2.2.1 f hf]
      by_cases z : f = k
      · rw [if_pos z, decide_eq_true z]; simp
      · rw [if_neg z, decide_eq_false z]; simp
    cases ew : bwl (wT least k X).1 k with
    | false =>
      have eq : (cwl &&& (jlshl 1 (nI k) ^^^ (-1))) = cwl := tb_ext fun f hf => by
        rw [wq f hf, hc.2.2.2.1 f hf]
        by_cases z : f = k
        · rw [if_pos z, z, ew]
        · rw [if_neg z]
      rw [if_pos eq]
      have hw := wT_n (least := least) (k := k) (X := X) (fun z => by rw [ew] at z; cases z.1)
      exact ih (k + 1) n cwl _ _ _ _ _ _ _ _ _ _ _ _ _ _ _ _ _ _ _ _ _ _ _ _ _ _ _ _ _ _ _ _ _ _ _ _ (by omega) (by omega) (by rw [hw]; exact hc) hs
    | true =>
      have ne : ¬ (cwl &&& (jlshl 1 (nI k) ^^^ (-1))) = cwl := fun z => by
        have := wq k (by omega)
        rw [z, hc.2.2.2.1 k (by omega), ew, if_pos rfl] at this
        cases this
      have od := ok_del (f := k) q1
      obtain ⟨tt, fo', qd', sp', w0', h0', n0', wl0', t0', k0', p0', l0', g0', a0', wd0', hg0', s0', lo', hi', sl', sf', mv', di', qu', e3, sc, t2⟩ := s_stays od.1 od.2.1 (chX_wl (C := X.1) y1 k wq) hle hs qd sp w0 h0 n0 wl0 t0 k0 p0 l0 g0 a0 wd0 hg0 s0 lo hi mv di qu
      rw [if_neg ne, ev_b _ e3, un24_ap]
      cases tt with
      | false =>
        have hw := wT_n (least := least) (k := k) (X := X) (fun z => by have := t2.mpr (hrdB_t.mp z.2); cases this)
        rw [if_pos (show bI false = 0 by decide)]
        exact ih (k + 1) n cwl _ _ _ _ _ _ _ _ _ _ _ _ _ _ _ _ _ _ _ _ _ _ _ _ _ _ _ _ _ _ _ _ _ _ _ _ (by omega) (by omega) (by rw [hw]; exact hc) sc
      | true =>
        have hw := wT_y (least := least) (k := k) (X := X) ⟨ew, hrdB_t.mpr (t2.mp rfl)⟩
        rw [if_neg (show ¬ bI true = 0 by decide)]
        exact ih (k + 1) n _ _ _ _ _ _ _ _ _ _ _ _ _ _ _ _ _ _ _ _ _ _ _ _ _ _ _ _ _ _ _ _ _ _ _ _ _ (by omega) (by omega) (by rw [hw]; exact chX_wl (C := X.1) hc k wq) sc
theorem m_trimsWall {X : BP} {f least : Nat} {khas kw kh kn : Int32} {kwl kk kat ks ky kg : Nat → Int32} (h : okX X) (hf : f < 64) (hr : rfX X.1 X.2 khas kw kh kn kwl kk kat ks ky kg) (hle : least < 6000) (st ed : Int32) (kpl khd kch kdp kpr kbb kby kbs kf kfe ked keb kwho khe : Nat → Int32) :
    ∃ (tt : Bool) (st' ed' : Int32) (kwl' kpl' khd' kch' kdp' kpr' kbb' kby' kbs' kf' kfe' ked' keb' kwho' khe' : Nat → Int32), f_BargeBasinModel_trimsWall (nI f) (nI least) kw kh kn st ed kwl kk kat ks ky kg kpl khd kch kdp kpr kbb kby kbs kf kfe ked keb kwho khe = some (bI tt, st', ed', kwl', kpl', khd', kch', kdp', kpr', kbb', kby', kbs', kf', kfe', ked', keb', kwho', khe') ∧ (tt = true ↔ bwl X.1 f = true ∧ hrdP (delW X.1 f) X.2 least) ∧ rfX (if tt = true then (delW X.1 f, X.2) else X).1 (if tt = true then (delW X.1 f, X.2) else X).2 khas kw kh kn kwl' kk kat ks ky kg := by
  have hr0 := hr
  obtain ⟨r1, r2, r3, r4, r5, r6, r7, r8⟩ := hr
  unfold f_BargeBasinModel_trimsWall
  simp only [ev_grdN _ hf (show 64 < 2 ^ 31 by decide), nI_clamp (show f < 2 ^ 31 by omega), r5 f hf]
  cases ew : bwl X.1 f with
  | false =>
    rw [if_pos (show bI false = 0 by decide)]
    exact ⟨false, st, ed, kwl, kpl, khd, kch, kdp, kpr, kbb, kby, kbs, kf, kfe, ked, keb, kwho, khe, rfl, ⟨fun z => by (cases z), fun z => z.1⟩, hr0⟩
  | true =>
    have od := ok_del (f := f) h
    have rw' : rfW (delW X.1 f) (upd kwl f 0) := by
      intro g hg
      show _ = bI (if g = f then false else bwl X.1 g)
      by_cases z : g = f
      · rw [z, pk_us, if_pos rfl]; rfl
      · rw [pk_un z, if_neg z]; exact r5 g hg
    obtain ⟨s, st', ed', kpl', khd', kch', kdp', kpr', kbb', kby', kbs', kf', kfe', ked', keb', kwho', khe', e2, f1, -⟩ := m_farNow (least := least) (B := delW X.1 f) (P := X.2) (kk := kk) (kat := kat) (ks := ks) (ky := ky) (kg := kg) od.1 od.2.1 r6 rw' r7 r8 hle st ed kpl khd kch kdp kpr kbb kby kbs kf kfe ked keb kwho khe
    have p2' : kw = nI (bw (delW X.1 f)) := r2
    have p3' : kh = nI (bh (delW X.1 f)) := r3
    have p4' : kn = nI (bn (delW X.1 f)) := r4
    rw [← p2', ← p3', ← p4'] at e2
    rw [if_neg (show ¬ bI true = 0 by decide), show vp_nar .boolean (0 : Int32) = 0 from nar_bI false, nar1, ev_b _ e2, un17_ap]
    by_cases c : s < nI least
    · rw [if_pos c]
      refine ⟨false, st', ed', upd (upd kwl f 0) f 1, kpl', khd', kch', kdp', kpr', kbb', kby', kbs', kf', kfe', ked', keb', kwho', khe', rfl, ⟨fun z => by (cases z), fun z => absurd c (f1.mpr z.2)⟩, r1, r2, r3, r4, fun g hg => ?_, r6, r7, r8⟩
      show upd (upd kwl f 0) f 1 g = bI (bwl X.1 g)
      by_cases z : g = f
      · rw [z, pk_us, ew]; rfl
      · rw [pk_un z, pk_un z]; exact r5 g hg
    · rw [if_neg c]
      exact ⟨true, st', ed', upd kwl f 0, kpl', khd', kch', kdp', kpr', kbb', kby', kbs', kf', kfe', ked', keb', kwho', khe', rfl, ⟨fun _ => ⟨rfl, f1.mp c⟩, fun _ => rfl⟩, r1, r2, r3, r4, rw', r6, r7, r8⟩
