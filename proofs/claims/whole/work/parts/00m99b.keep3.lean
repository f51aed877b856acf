/-! keep of the class. -/
theorem cp_chX {B : Bas} {P : Nat → Nat} {cw chh cn : Int32} {cwl ct : Int64} {ck cp cl cg ca cwd chg : Nat → Int32} {cs : Nat → Int64} (h : basOk B) (hc : chX B P cw chh cn cwl ct ck cp cl cg ca cwd chg cs) (b1 d1 c1 : Int32) (w1 t1 : Int64) (k1 p1 l1 g1 a1 wd1 hg1 : Nat → Int32) (s1 : Nat → Int64) :
    ∃ k p l g a wd hg s, f_Chart_copyFrom b1 d1 c1 w1 t1 k1 p1 l1 g1 a1 wd1 hg1 s1 cw chh cn cwl ct ck cp cl cg ca cwd chg cs = some (cw, chh, cn, cwl, ct, k, p, l, g, a, wd, hg, s) ∧ chX B P cw chh cn cwl ct k p l g a wd hg s := by
  obtain ⟨x1, x2, x3, x4, x5, x6, x7, x8, x9⟩ := hc
  obtain ⟨k, p, l, g, a, wd, hg, s, e, q⟩ := s_copyFrom (n := bn B) (b2 := cw) (d2 := chh) (c2 := cn) (w2 := cwl) (t2 := ct) (k2 := ck) (p2 := cp) (l2 := cl) (g2 := cg) (a2 := ca) (wd2 := cwd) (hg2 := chg) (s2 := cs) h.2.2.2.2.1 (fun b hb => by rw [(x6 b hb).2.1, nar_bI]) b1 d1 c1 w1 t1 k1 p1 l1 g1 a1 wd1 hg1 s1 x3
  refine ⟨k, p, l, g, a, wd, hg, s, e, x1, x2, x3, x4, x5, ?_, fun b hb => ?_, fun b hb => ?_, fun b hb e5 => ?_⟩
  · exact chB_cg x6 (fun b hb => ⟨(q b hb).1, (q b hb).2.2.2.2.1, (q b hb).2.2.2.2.2.1, (q b hb).2.2.2.2.2.2.1, (q b hb).2.2.2.2.2.2.2⟩)
  · rw [(q b hb).2.1]; exact x7 b hb
  · rw [(q b hb).2.2.1]; exact x8 b hb
  · rw [(q b hb).2.2.2.1]; exact x9 b hb e5
theorem s_keep0 {B : Bas} {P : Nat → Nat} {cw chh cn : Int32} {cwl ct : Int64} {ck cp cl cg ca cwd chg : Nat → Int32} {cs : Nat → Int64} {k0 : Nat} {shelves : Nat → Option Nat} (h : basOk B) (hc : chX B P cw chh cn cwl ct ck cp cl cg ca cwd chg cs) (hk : k0 < 4) (hs : shelves k0 = none) (st : Int32) :
    ∃ k p l g a wd hg s, f_BargeBasin_keep_sh0 (nI k0) st cw chh cn cwl ct ck cp cl cg ca cwd chg cs shelves = some (1, 0, cw, chh, cn, cwl, ct, k, p, l, g, a, wd, hg, s) ∧ chX B P cw chh cn cwl ct k p l g a wd hg s := by
  obtain ⟨k, p, l, g, a, wd, hg, s, e, q⟩ := cp_chX h hc 0 0 0 0 0 (fun _ => 0) (fun _ => 0) (fun _ => 0) (fun _ => 0) (fun _ => 0) (fun _ => 0) (fun _ => 0) (fun _ => 0)
  refine ⟨k, p, l, g, a, wd, hg, s, ?_, q⟩
  unfold f_BargeBasin_keep_sh0 jshN
  have e3 : (nI k0 < 4) = (k0 < 4) := nI_ltE (b := 4) (by omega) (by decide)
  rw [show f_BargeBasin_hasNoBasin cw = some 0 by rw [hc.1]; exact noBas h, ev_b _ rfl, if_pos rfl, if_neg (nI_nn (by omega)), if_pos (show nI k0 < 4 by rw [e3]; exact hk)]
  simp only [ev_grdN _ hk (show 4 < 2 ^ 31 by decide), nI_clamp (show k0 < 2 ^ 31 by omega)]
  rw [if_pos hs, ev_b _ (show f_Chart_init = some () from rfl), un0_ap, ev_b _ e]; rfl
theorem s_keep1 {B : Bas} {P : Nat → Nat} {cw chh cn : Int32} {cwl ct : Int64} {ck cp cl cg ca cwd chg : Nat → Int32} {cs : Nat → Int64} {k0 a0 : Nat} {shelves : Nat → Option Nat} (h : basOk B) (hc : chX B P cw chh cn cwl ct ck cp cl cg ca cwd chg cs) (hk : k0 < 4) (hs : shelves k0 = some a0) (st : Int32) (b1 d1 c1 : Int32) (w1 t1 : Int64) (k1 p1 l1 g1 a1 wd1 hg1 : Nat → Int32) (s1 : Nat → Int64) :
    ∃ k p l g a wd hg s, f_BargeBasin_keep_sh1 a0 (nI k0) st cw chh cn cwl ct ck cp cl cg ca cwd chg cs shelves b1 d1 c1 w1 t1 k1 p1 l1 g1 a1 wd1 hg1 s1 = some (1, 0, cw, chh, cn, cwl, ct, k, p, l, g, a, wd, hg, s) ∧ chX B P cw chh cn cwl ct k p l g a wd hg s := by
  obtain ⟨k, p, l, g, a, wd, hg, s, e, q⟩ := cp_chX h hc b1 d1 c1 w1 t1 k1 p1 l1 g1 a1 wd1 hg1 s1
  refine ⟨k, p, l, g, a, wd, hg, s, ?_, q⟩
  unfold f_BargeBasin_keep_sh1 jshS
  have e3 : (nI k0 < 4) = (k0 < 4) := nI_ltE (b := 4) (by omega) (by decide)
  rw [show f_BargeBasin_hasNoBasin cw = some 0 by rw [hc.1]; exact noBas h, ev_b _ rfl, if_pos rfl, if_neg (nI_nn (by omega)), if_pos (show nI k0 < 4 by rw [e3]; exact hk)]
  simp only [ev_grdN _ hk (show 4 < 2 ^ 31 by decide), nI_clamp (show k0 < 2 ^ 31 by omega)]
  rw [if_pos hs, ev_b _ e]; rfl
theorem s_keepN {B : Bas} {v1 : Int32} {shelves : Nat → Option Nat} (h : basOk B) (hv : ¬ (0 ≤ v1.toInt ∧ v1.toInt < 4)) (st : Int32) : f_BargeBasin_keep_shx v1 st (nI (bw B)) shelves = some (0, 2) := by
  have t0 : (0 : Int32).toInt = 0 := rfl
  have t4 : (4 : Int32).toInt = 4 := by decide
  unfold f_BargeBasin_keep_shx
  rw [ev_b _ (noBas h), if_pos rfl]
  by_cases a : v1 < 0
  · rw [if_pos a]; rfl
  · rw [if_neg a, if_neg (show ¬ v1 < 4 from fun z => by
      rw [Int32.lt_iff_toInt_lt, t0] at a
      rw [Int32.lt_iff_toInt_lt, t4] at z
      omega)]; rfl
