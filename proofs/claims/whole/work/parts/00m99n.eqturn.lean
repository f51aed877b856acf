/-! turn of both sides. -/
theorem eq_turn {B : Bas} {P : Nat → Nat} {cw chh cn : Int32} {cwl ct : Int64} {ck cp cl cg ca cwd chg : Nat → Int32} {cs : Nat → Int64} {khas kw kh kn : Int32} {kwl kk kat ks ky kg : Nat → Int32} {lf ld lu um rm : Int32} {lm ub uf ut rb rf rt : Nat → Int32} {csort csize cnum lsort lmany lnum : Nat → Int32} (h : basOk B) (hP : stC B P) (hc : chX B P cw chh cn cwl ct ck cp cl cg ca cwd chg cs) (hr : rfX B P khas kw kh kn kwl kk kat ks ky kg) (hl : lgR B P lf ld lu lm um rm ub uf ut rb rf rt) (hn : lnR B csort csize cnum lsort lmany lnum) (ov : Bool) (st st2 th : Int32) (nw : Nat → Int32) :
    ∃ (csort' csize' cnum' : Nat → Int32) (cw' chh' : Int32) (cwl' ct' : Int64) (cp' cg' ca' cwd' chg' : Nat → Int32) (cs' : Nat → Int64) (kw' kh' : Int32) (lsort' lmany' lnum' kwl' kat' ky' kg' nw' : Nat → Int32),
      f_BargeBasin_turn (bI ov) st csort csize cnum cw chh cn cwl ct ck cp cl cg ca cwd chg cs ld lu = some (1, 0, csort', csize', cnum', cw', chh', cwl', ct', cp', cg', ca', cwd', chg', cs', 0, 0) ∧
      f_BargeBasinModel_turn (bI ov) st2 th khas kw kh kn um rm lsort lmany lnum kwl kk kat ks ky kg nw = some (1, 0, 0, kw', kh', 0, 0, lsort', lmany', lnum', kwl', kat', ky', kg', nw') ∧
      basOk (tuB ov B) ∧ stC (tuB ov B) (tuP ov B P) ∧ chX (tuB ov B) (tuP ov B P) cw' chh' cn cwl' ct' ck cp' cl cg' ca' cwd' chg' cs' ∧ rfX (tuB ov B) (tuP ov B P) khas kw' kh' kn kwl' kk kat' ks ky' kg' ∧ lgR (tuB ov B) (tuP ov B P) lf 0 0 lm 0 0 ub uf ut rb rf rt ∧ lnR (tuB ov B) csort' csize' cnum' lsort' lmany' lnum' := by
  have w8 := h.2.1
  have h8 := h.2.2.2.1
  have n12 := h.2.2.2.2.1
  have ho := hn.2.2.1
  have hB := tu_bas (ov := ov) h hP
  have hQ := tu_st (ov := ov) h hP
  have hO := tu_out (ov := ov) h ho
  have hL := lgR_forget hl hQ
  have cwe := hc.1
  have che := hc.2.1
  obtain ⟨r1, r2, r3, r4, r5, r6, r7, r8⟩ := hr
  subst r1; subst r2; subst r3; subst r4
  obtain ⟨p1, y1, g1, e1, e2, e3, e4⟩ := m_turL (ov := ov) (kk := kk) (ks := ks) h hP (fun b hb => (r6 b hb).1) (fun b hb => (r6 b hb).2.1) (bn B) 0 jN kat ky kg (by omega) (by show bn B < 2000000; omega) (fun c hc => by rw [if_neg (Nat.not_lt_zero c)]; exact r7 c hc) (fun c hc => by rw [if_neg (Nat.not_lt_zero c)]; exact (r6 c hc).2.2) (fun c hc e => by rw [if_neg (Nat.not_lt_zero c)]; exact r8 c hc e)
  obtain ⟨N0, n1, n2⟩ := m_clr (ov := ov) 64 0 jN nw (by omega) (by show 64 < 2000000; omega) (fun f hf => by omega)
  obtain ⟨N1, n3, n4⟩ := m_turY (ov := ov) h r5 ho (bh B) 0 jN N0 (by omega) (by show bh B < 2000000; omega) (fun f hf => by rw [n2 f hf, wlK_0]; rfl)
  obtain ⟨N2, n5, n6⟩ := m_cpW (ov := ov) n4 64 0 jN kwl (by omega) (by show 64 < 2000000; omega) (fun f hf => by omega)
  have rW : rfW (tuB ov B) N2 := n6
  cases ov with
  | true =>
    obtain ⟨W, t, p, g, x1, x2⟩ := s_mirror h hP hc ho
    obtain ⟨S, Z, N, z1, z2, z3⟩ := s_showWalls hB x2.2.2.2.1 csort csize cnum
    obtain ⟨S', Z', N', y1', y2, y3⟩ := m_linesByWalls hB rW lsort lmany lnum
    refine ⟨S, Z, N, cw, chh, W, t, p, g, ca, cwd, chg, cs, nI (bw B), nI (bh B), S', Z', N', N2, p1, y1, g1, N1, ?_, ?_, hB, hQ, x2, ⟨rfl, rfl, rfl, rfl, rW, e3, e2, e4⟩, hL, byw_ln hB hO z2 z3 y2 (fun z h1 h2 => by rw [y3 z h1]; exact hn.2.2.2 z h1 h2)⟩
    · unfold f_BargeBasin_turn f_BargeBasin_turn_J34
      rw [show f_BargeBasin_hasNoBasin cw = some 0 by rw [cwe]; exact noBas h, ev_b _ rfl, if_pos rfl, if_neg (show ¬ bI true = 0 by decide), ev_b _ x1, un4_ap, cwe, che, ev_b (x := f_Lines_showWalls csort csize cnum (nI (bw B)) (nI (bh B)) W) _ z1, un3_ap]
      rfl
    · unfold f_BargeBasinModel_turn f_BargeBasinModel_turn_J316
      rw [if_neg (show ¬ (1 : Int32) = 0 by decide), ev_b (x := f_BargeBasinModel_turn_L25 (bI true) (nI (bw B)) (nI (bh B)) (nI (bn B)) kk ks jN 0 kat ky kg) _ e1, un3_ap, ev_b (x := f_BargeBasinModel_turn_L153 (bI true) jN 0 nw) _ n1, ev_b (x := f_BargeBasinModel_turn_L174 (bI true) (nI (bw B)) (nI (bh B)) kwl jN 0 N0) _ n3, ev_b (x := f_BargeBasinModel_turn_L246 (bI true) N1 jN 0 kwl) _ n5, if_neg (show ¬ bI true = 0 by decide), ev_b (x := f_BargeBasinModel_linesByWalls (nI (bw B)) (nI (bh B)) lsort lmany lnum N2) _ y1', un3_ap]
      rfl
  | false =>
    obtain ⟨W, t, p, g, a, wd, hg, s, x1, x2⟩ := s_quarter h hP hc ho
    obtain ⟨S, Z, N, z1, z2, z3⟩ := s_showWalls hB x2.2.2.2.1 csort csize cnum
    obtain ⟨M, m1, m2⟩ := m_t297 (b0 := bw B) (8 - bw B) (bw B) jN lmany (by omega) (by show 8 - bw B < 2000000; omega) (Nat.le_refl _) (fun z h1 h2 => by omega)
    obtain ⟨S', Z', N', y1', y2, y3⟩ := m_linesByWalls hB rW lsort M lnum
    refine ⟨S, Z, N, chh, cw, W, t, p, g, a, wd, hg, s, nI (bh B), nI (bw B), S', Z', N', N2, p1, y1, g1, N1, ?_, ?_, hB, hQ, x2, ⟨rfl, rfl, rfl, rfl, rW, e3, e2, e4⟩, hL, byw_ln hB hO z2 z3 y2 (fun z h1 h2 => by rw [y3 z h1]; exact m2 z h1 h2)⟩
    · unfold f_BargeBasin_turn f_BargeBasin_turn_J34
      rw [show f_BargeBasin_hasNoBasin cw = some 0 by rw [cwe]; exact noBas h, ev_b _ rfl, if_pos rfl, if_pos (show bI false = 0 by decide), ev_b _ x1, un10_ap, cwe, che, ev_b (x := f_Lines_showWalls csort csize cnum (nI (bh B)) (nI (bw B)) W) _ z1, un3_ap]
      rfl
    · unfold f_BargeBasinModel_turn f_BargeBasinModel_turn_J316
      rw [if_neg (show ¬ (1 : Int32) = 0 by decide), ev_b (x := f_BargeBasinModel_turn_L25 (bI false) (nI (bw B)) (nI (bh B)) (nI (bn B)) kk ks jN 0 kat ky kg) _ e1, un3_ap, ev_b (x := f_BargeBasinModel_turn_L153 (bI false) jN 0 nw) _ n1, ev_b (x := f_BargeBasinModel_turn_L174 (bI false) (nI (bw B)) (nI (bh B)) kwl jN 0 N0) _ n3, ev_b (x := f_BargeBasinModel_turn_L246 (bI false) N1 jN 0 kwl) _ n5, if_pos (show bI false = 0 by decide), ev_b _ m1, ev_b (x := f_BargeBasinModel_linesByWalls (nI (bh B)) (nI (bw B)) lsort M lnum N2) _ y1', un3_ap]
      rfl
