/-! slide, undo, redo, why, planned: both sides answer alike. -/
def lgR (B : Bas) (P : Nat → Nat) (lf ld lu : Int32) (lm : Nat → Int32) (um rm : Int32) (ub uf ut rb rf rt : Nat → Int32) : Prop := ∃ T S D, lgT B P T S D ∧ lgC T D lf ld lu lm ∧ lgM T S D um rm ub uf ut rb rf rt
theorem ix3 (v : Int32) {n : Nat} (hn : n < 2 ^ 31) : (v < 0 ∨ nI n ≤ v) ∨ ∃ j, j < n ∧ v = nI j := by
  rcases pk_ix v hn with z | z | z
  · exact Or.inl (Or.inl z)
  · exact Or.inl (Or.inr z)
  · exact Or.inr z
theorem out4 {v : Int32} (h : v < 0 ∨ nI 4 ≤ v) : v < 0 ∨ (¬ v < 0 ∧ (4 : Int32) ≤ v ∧ (3 : Int32) < v ∧ ¬ v < 4 ∧ ¬ v ≤ 3) := by
  have a : (0 : Int32).toInt = 0 := rfl
  have b : (4 : Int32).toInt = 4 := by decide
  have c : (3 : Int32).toInt = 3 := by decide
  have d : (nI 4).toInt = 4 := by decide
  simp only [Int32.lt_iff_toInt_lt, Int32.le_iff_toInt_le, a, b, c, d] at *
  omega
theorem sl_new {B : Bas} {P : Nat → Nat} {b d s : Nat} {T : List Nat} {S : Nat → Nat → Nat} {D : Nat} (h : basOk B) (hP : stC B P) (hT : lgT B P T S D) (hb : b < bn B) (hd : d < 4) (hk : s ≤ room B P b d false) : lgT B (updN P b (nxtk d (P b) s)) (nxT T D (32 * b + 8 * d + s)) (nxS S D (updN P b (nxtk d (P b) s))) (nxD D) := by
  have r7 := room_le (B := B) (P := P) (b := b) (d := d) (bk := false)
  have n12 := h.2.2.2.2.1
  have mc := mv_code (b := b) (d := d) (k := s) hd (by omega)
  refine nx_lgT hT (by omega) (by rw [mc.1]; exact hb) (mv_st h hP hb hd hk) (by rw [mc.1, updN_s]) ?_
  rw [mc.1, mc.2.1, mc.2.2, updN_s]
  exact (room_st (bk := false) h hP.1 hb hd hk).2
theorem eq_slide {B : Bas} {P : Nat → Nat} {cw chh cn : Int32} {cwl ct : Int64} {ck cp cl cg ca cwd chg : Nat → Int32} {cs : Nat → Int64} {khas kw kh kn : Int32} {kwl kk kat ks ky kg : Nat → Int32} {lf ld lu um rm : Int32} {lm ub uf ut rb rf rt : Nat → Int32} (h : basOk B) (hP : stC B P) (hc : chX B P cw chh cn cwl ct ck cp cl cg ca cwd chg cs) (hr : rfX B P khas kw kh kn kwl kk kat ks ky kg) (hl : lgR B P lf ld lu lm um rm ub uf ut rb rf rt) (v1 v2 v3 st st2 th w1 w2 w3 : Int32) (kwho khe : Nat → Int32) :
    ∃ (ans st' w1' w2' w3' : Int32) (ct' : Int64) (cp' : Nat → Int32) (lf' ld' lu' : Int32) (lm' : Nat → Int32) (um' rm' : Int32) (kat' ub' uf' ut' kwho' khe' : Nat → Int32) (Q : Nat → Nat), f_BargeBasin_slide v1 v2 v3 st w1 w2 w3 cw chh cn cwl ct ck cp ca cwd chg cs lf ld lu lm = some (ans, st', w1', w2', w3', ct', cp', lf', ld', lu', lm') ∧
      f_BargeBasinModel_slide v1 v2 v3 st2 th khas kw kh kn um rm w1 w2 w3 kwl kk kat ks ky ub uf ut kwho khe = some (ans, st', 0, um', rm', w1', w2', w3', kat', ub', uf', ut', kwho', khe') ∧
      stC B Q ∧ chT B Q ct' ∧ chP B Q cp' ∧ chP B Q kat' ∧ lgR B Q lf' ld' lu' lm' um' rm' ub' uf' ut' rb rf rt := by
  have hc0 := hc
  obtain ⟨c1, c2, c3, c4, c5, c6, c7, c8, c9⟩ := hc
  obtain ⟨r1, r2, r3, r4, r5, r6, r7, r8⟩ := hr
  subst c1; subst c2; subst c3; subst r1; subst r2; subst r3; subst r4
  have n12 := h.2.2.2.2.1
  unfold f_BargeBasin_slide f_BargeBasinModel_slide
  rw [if_neg (show ¬ (1 : Int32) = 0 by decide)]
  rcases ix3 v1 (show bn B < 2 ^ 31 by omega) with z | ⟨b, hb, z⟩
  · rw [ev_b _ (fb_cn h z), ev_b _ (ib_cn z), if_neg (show ¬ (2 : Int32) = 0 by decide), if_pos rfl]
    exact ⟨0, 2, w1, w2, w3, ct, cp, lf, ld, lu, lm, um, rm, kat, ub, uf, ut, kwho, khe, P, rfl, rfl, hP, c5, c7, r7, hl⟩
  · subst z
    rw [ev_b _ (fb_c h hb), ev_b _ (ib_c h hb), if_pos rfl, if_neg (show ¬ (1 : Int32) = 0 by decide)]
    rcases ix3 v2 (show 4 < 2 ^ 31 by decide) with z | ⟨d, hd, z⟩
    · rcases out4 z with y | ⟨y1, y2, y3, -, -⟩
      · rw [if_pos y, if_pos y]
        exact ⟨0, 2, w1, w2, w3, ct, cp, lf, ld, lu, lm, um, rm, kat, ub, uf, ut, kwho, khe, P, rfl, rfl, hP, c5, c7, r7, hl⟩
      · rw [if_neg y1, if_pos y2, if_neg y1, if_pos y3]
        exact ⟨0, 2, w1, w2, w3, ct, cp, lf, ld, lu, lm, um, rm, kat, ub, uf, ut, kwho, khe, P, rfl, rfl, hP, c5, c7, r7, hl⟩
    · subst z
      rw [if_neg (nI_pos (by omega)), if_neg (show ¬ (4 : Int32) ≤ nI d from nI_ge (b := 4) hd (by decide)), if_neg (nI_pos (by omega)), if_neg (show ¬ (3 : Int32) < nI d from nI_nlt (a := 3) (by omega) (by decide))]
      by_cases y1 : v3 < 1
      · rw [if_pos y1, if_pos y1]
        exact ⟨0, 2, w1, w2, w3, ct, cp, lf, ld, lu, lm, um, rm, kat, ub, uf, ut, kwho, khe, P, rfl, rfl, hP, c5, c7, r7, hl⟩
      · rw [if_neg y1, if_neg y1]
        by_cases y2 : v3 ≤ 7
        · rw [if_pos y2, if_pos y2]
          have y0 : ¬ v3 < 0 := fun y => by
            rw [Int32.lt_iff_toInt_lt] at y y1
            have : (0 : Int32).toInt = 0 := rfl
            have : (1 : Int32).toInt = 1 := by decide
            omega
          obtain ⟨s, s7, es⟩ := nI_of2 (M := 7) (n := 7) (by decide) y0 y2
          subst es
          obtain ⟨T, S, D, t1, t2, t3⟩ := hl
          obtain ⟨A1, A2⟩ := s_slides h hP hc0 t1.1 t1.2.1 t2 hb hd s7
          obtain ⟨B1, B2⟩ := m_slides h hP r6 r5 r7 t1 t3 hb hd s7 w1 w2 w3 kwho khe
          by_cases hk : s ≤ room B P b d false
          · obtain ⟨kt', kp', lf', ld', lu', lm', e1, q1, q2, q3⟩ := A1 hk
            obtain ⟨um', rm', kat', ub', uf', ut', kw', kh', e2, p1, p2⟩ := B1 hk
            rw [ev_b _ e1, un7_ap, ev_b _ e2, un12_ap, if_neg (show ¬ (1 : Int32) = 0 by decide), if_neg (show ¬ (1 : Int32) = 0 by decide)]
            exact ⟨1, 0, w1, w2, w3, kt', kp', lf', ld', lu', lm', um', rm', kat', ub', uf', ut', kw', kh', _, rfl, rfl, mv_st h hP hb hd hk, q1, q2, p1, _, _, _, sl_new h hP t1 hb hd hk, q3, p2⟩
          · have e1 := A2 hk
            obtain ⟨o, kw', kh', e2, q2⟩ := B2 hk
            obtain ⟨o', e3, q3⟩ := s_tellWhy h hP hc0 hb hd w1 w2 w3
            have eo := whoW_u q3 q2
            subst eo
            rw [ev_b _ e1, un7_ap, ev_b _ e2, un12_ap, if_pos rfl, if_pos rfl, ev_b _ e3, un3_ap]
            exact ⟨0, 9, _, _, _, ct, cp, lf, ld, lu, lm, um, rm, kat, ub, uf, ut, kw', kh', P, rfl, rfl, hP, c5, c7, r7, T, S, D, t1, t2, t3⟩
        · rw [if_neg y2, if_neg y2]
          exact ⟨0, 2, w1, w2, w3, ct, cp, lf, ld, lu, lm, um, rm, kat, ub, uf, ut, kwho, khe, P, rfl, rfl, hP, c5, c7, r7, hl⟩
theorem eq_why (v1 w1 w2 w3 th : Int32) : ∃ ans, f_BargeBasin_why v1 w1 w2 w3 = some ans ∧ f_BargeBasinModel_why v1 th w1 w2 w3 = some (ans, 0) := by
  unfold f_BargeBasin_why f_BargeBasinModel_why
  by_cases a : v1 = 0
  · rw [if_pos a, if_pos a]; exact ⟨_, rfl, rfl⟩
  · rw [if_neg a, if_neg a]
    by_cases b : v1 = 1
    · rw [if_pos b, if_pos b]; exact ⟨_, rfl, rfl⟩
    · rw [if_neg b, if_neg b]
      by_cases c : v1 = 2
      · rw [if_pos c, if_pos c]; exact ⟨_, rfl, rfl⟩
      · rw [if_neg c, if_neg c]; exact ⟨_, rfl, rfl⟩
/-- the plan on both sides -/
def plR (cs : List Nat) (psz : Int32) (pm : Nat → Int32) (khp kpm : Int32) (pb pw ps : Nat → Int32) : Prop := cs.length < 6000 ∧ (∀ c, c ∈ cs → c < 400) ∧ psz = nI cs.length ∧ wrt pm cs ∧ khp = 1 ∧ kpm = nI cs.length ∧ plW cs pb pw ps
theorem eq_planned {cs : List Nat} {psz khp kpm : Int32} {pm pb pw ps : Nat → Int32} (hp : plR cs psz pm khp kpm pb pw ps) (v1 v2 th : Int32) : ∃ ans, f_BargeBasin_planned_plan11 v1 v2 psz pm = some ans ∧ f_BargeBasinModel_planned v1 v2 th khp kpm pb pw ps = some (ans, 0) := by
  obtain ⟨l, c4, e1, w, e2, e3, pl⟩ := hp
  subst e1; subst e2; subst e3
  unfold f_BargeBasin_planned_plan11 f_BargeBasinModel_planned
  rw [if_neg (show ¬ (1 : Int32) = 0 by decide)]
  by_cases a : v1 < 0
  · rw [if_pos a, if_pos a]; exact ⟨_, rfl, rfl⟩
  · rw [if_neg a, if_neg a]
    by_cases b : v1 < nI cs.length
    · rw [if_pos b, if_pos b]
      obtain ⟨k, hk, ek⟩ := nI_of a
      subst ek
      have hk' : k < cs.length := (nI_ltI hk (by omega)).mp b
      obtain ⟨p1, p2, p3⟩ := pl k hk'
      have c := c4 _ (List.getElem_mem hk')
      rw [ev_grdN _ (show k < 6000 by omega) (by decide), ev_grdN _ (show k < 6000 by omega) (by decide), ev_grdN _ (show k < 6000 by omega) (by decide), ev_grdN _ (show k < 6000 by omega) (by decide), ev_bnd, nI_clamp hk, w k hk', p1, p2, p3, ev_b _ (s_bargeOf _ c), ev_b _ (s_dirOf _ c), ev_b _ (s_stepsOf _ c)]
      by_cases x : v2 = 0
      · rw [if_pos x, if_pos x]; exact ⟨_, rfl, rfl⟩
      · rw [if_neg x, if_neg x]
        by_cases y : v2 = 1
        · rw [if_pos y, if_pos y]; exact ⟨_, rfl, rfl⟩
        · rw [if_neg y, if_neg y]
          by_cases z : v2 = 2
          · rw [if_pos z, if_pos z]; exact ⟨_, rfl, rfl⟩
          · rw [if_neg z, if_neg z]; exact ⟨_, rfl, rfl⟩
    · rw [if_neg b, if_neg b]; exact ⟨_, rfl, rfl⟩
theorem eq_undo {B : Bas} {P : Nat → Nat} {cw chh cn : Int32} {cwl ct : Int64} {ck cp cl cg ca cwd chg : Nat → Int32} {cs : Nat → Int64} {khas kw kh kn : Int32} {kwl kk kat ks ky kg : Nat → Int32} {lf ld lu um rm : Int32} {lm ub uf ut rb rf rt : Nat → Int32} (h : basOk B) (hP : stC B P) (hc : chX B P cw chh cn cwl ct ck cp cl cg ca cwd chg cs) (hr : rfX B P khas kw kh kn kwl kk kat ks ky kg) (hl : lgR B P lf ld lu lm um rm ub uf ut rb rf rt) (st st2 th : Int32) :
    ∃ (ans st' : Int32) (ct' : Int64) (cp' : Nat → Int32) (ld' lu' um' rm' : Int32) (kat' rb' rf' rt' : Nat → Int32) (Q : Nat → Nat), f_BargeBasin_undo st cw ct cp cs lf ld lu lm = some (ans, st', ct', cp', ld', lu') ∧
      f_BargeBasinModel_undo st2 th khas um rm kat ub uf ut rb rf rt = some (ans, st', 0, um', rm', kat', rb', rf', rt') ∧
      stC B Q ∧ chT B Q ct' ∧ chP B Q cp' ∧ chP B Q kat' ∧ lgR B Q lf ld' lu' lm um' rm' ub uf ut rb' rf' rt' := by
  obtain ⟨c1, c2, c3, c4, c5, c6, c7, c8, c9⟩ := hc
  obtain ⟨r1, r2, r3, r4, r5, r6, r7, r8⟩ := hr
  subst c1; subst c2; subst c3; subst r1; subst r2; subst r3; subst r4
  have n12 := h.2.2.2.2.1
  obtain ⟨T, S, D, t1, t2, t3⟩ := hl
  have t1' := t1
  obtain ⟨a1, a2, a3, a4, a5⟩ := t1
  have t2' := t2
  obtain ⟨f, f1, f60, f2, f3, f4⟩ := t2
  have t3' := t3
  obtain ⟨m1, m2, m3, m4⟩ := t3
  unfold f_BargeBasin_undo f_BargeBasinModel_undo
  rw [if_neg (show ¬ (1 : Int32) = 0 by decide), ev_b _ (noBas h), if_pos rfl, f2, m1]
  by_cases d0 : D = 0
  · rw [if_pos (show nI D = 0 by rw [d0]; rfl), if_pos (show nI D = 0 by rw [d0]; rfl)]
    refine ⟨0, 11, ct, cp, nI D, lu, nI D, rm, kat, rb, rf, rt, P, rfl, rfl, hP, c5, c7, r7, T, S, D, t1', ?_, ?_⟩
    · rw [f2] at t2'; exact t2'
    · rw [m1] at t3'; exact t3'
  · have dn : ¬ nI D = 0 := nI_ne0 (by omega) (by omega)
    obtain ⟨E, rfl⟩ : ∃ E, D = E + 1 := ⟨D - 1, by omega⟩
    obtain ⟨k1, k2, k3, k4⟩ := a5 E (by omega)
    obtain ⟨u1, u2, u3⟩ := m3 E (by omega)
    have sE := a4 E (by omega)
    have back : updN P (cT T E / 32) (S E (cT T E / 32)) = S E := by
      rw [← a3, k3, updN_two]; exact updN_self
    have p64 := ins_64 h hP.1.1 k2
    have hv : nI (P (cT T E / 32)) + (- nI (cT T E % 8)) * sv_STEP (cT T E / 8 % 4) = nI (S E (cT T E / 32)) := by
      rw [(step32 _ p64 (cT T E % 8) (by omega) (cT T E / 8 % 4) (by omega)).2, ← ofInt_nI]
      refine congrArg Int32.ofInt ?_
      rw [← a3, k4]
      omega
    obtain ⟨kt', e1, q1, q2⟩ := s_shift h hP.1 (by rw [back]; exact sE.1) c6 c7 c5 k2 (show cT T E / 8 % 4 < 4 by omega) hv
    rw [back] at q1 q2
    have dm : nI (E + 1) - 1 = nI E := nI_pred E
    have lb : f_Log_back (nI f) (nI (E + 1)) (nI (T.length - (E + 1))) lm = some (nI (cT T E), nI E, nI (T.length - E)) := by
      unfold f_Log_back
      rw [ev_bnd, ev_bnd, dm, ev_div _ (by decide), nI_add, rem60 (by omega), ev_grdN _ (show (f + E) % 60 < 60 by omega) (by decide), nI_clamp (by omega), f4 E (by omega), nI_1, show T.length - (E + 1) + 1 = T.length - E by omega]
    have b12 : cT T E / 32 < 12 := by omega
    have katE : chP B (S E) (upd kat (cT T E / 32) (nI (S E (cT T E / 32)))) := by
      have := chP_upd (b := cT T E / 32) (q := S E (cT T E / 32)) r7
      rw [back] at this; exact this
    rw [if_neg dn, if_neg dn, f1, f3, ev_b _ lb, un3_ap, ev_b _ (s_bargeOf _ k1), ev_b _ (s_dirOf _ k1), ev_b _ (s_stepsOf _ k1), ev_b _ e1, un2_ap, ev_bnd, dm, m2]
    simp only [ev_grdN _ (show E < 60 by omega) (show 60 < 2 ^ 31 by decide), ev_grdN _ (show T.length - (E + 1) < 60 by omega) (show 60 < 2 ^ 31 by decide), ev_bnd, nI_clamp (show E < 2 ^ 31 by omega), nI_clamp (show T.length - (E + 1) < 2 ^ 31 by omega), u1, u2, u3, ev_grdN _ b12 (show 12 < 2 ^ 31 by decide), cl_nI b12, nI_1]
    refine ⟨1, 0, kt', _, _, _, _, _, _, _, _, _, S E, rfl, rfl, sE, q1, q2, katE, T, S, E, ⟨a1, by omega, rfl, a4, a5⟩, ⟨f, rfl, f60, rfl, rfl, f4⟩, rfl, by rw [show T.length - (E + 1) + 1 = T.length - E by omega], fun k hk => m3 k (by omega), fun j hj => ?_⟩
    by_cases z : j = T.length - (E + 1)
    · subst z
      rw [pk_us, pk_us, pk_us, show T.length - 1 - (T.length - (E + 1)) = E by omega, show T.length - (T.length - (E + 1)) = E + 1 by omega]
      exact ⟨rfl, rfl, rfl⟩
    · rw [pk_un z, pk_un z, pk_un z]
      exact m4 j (by omega)
theorem eq_redo {B : Bas} {P : Nat → Nat} {cw chh cn : Int32} {cwl ct : Int64} {ck cp cl cg ca cwd chg : Nat → Int32} {cs : Nat → Int64} {khas kw kh kn : Int32} {kwl kk kat ks ky kg : Nat → Int32} {lf ld lu um rm : Int32} {lm ub uf ut rb rf rt : Nat → Int32} (h : basOk B) (hP : stC B P) (hc : chX B P cw chh cn cwl ct ck cp cl cg ca cwd chg cs) (hr : rfX B P khas kw kh kn kwl kk kat ks ky kg) (hl : lgR B P lf ld lu lm um rm ub uf ut rb rf rt) (st st2 th : Int32) :
    ∃ (ans st' : Int32) (ct' : Int64) (cp' : Nat → Int32) (ld' lu' um' rm' : Int32) (kat' ub' uf' ut' : Nat → Int32) (Q : Nat → Nat), f_BargeBasin_redo st cw ct cp cs lf ld lu lm = some (ans, st', ct', cp', ld', lu') ∧
      f_BargeBasinModel_redo st2 th khas um rm kat ub uf ut rb rf rt = some (ans, st', 0, um', rm', kat', ub', uf', ut') ∧
      stC B Q ∧ chT B Q ct' ∧ chP B Q cp' ∧ chP B Q kat' ∧ lgR B Q lf ld' lu' lm um' rm' ub' uf' ut' rb rf rt := by
  obtain ⟨c1, c2, c3, c4, c5, c6, c7, c8, c9⟩ := hc
  obtain ⟨r1, r2, r3, r4, r5, r6, r7, r8⟩ := hr
  subst c1; subst c2; subst c3; subst r1; subst r2; subst r3; subst r4
  have n12 := h.2.2.2.2.1
  obtain ⟨T, S, D, t1, t2, t3⟩ := hl
  have t1' := t1
  obtain ⟨a1, a2, a3, a4, a5⟩ := t1
  have t2' := t2
  obtain ⟨f, f1, f60, f2, f3, f4⟩ := t2
  have t3' := t3
  obtain ⟨m1, m2, m3, m4⟩ := t3
  unfold f_BargeBasin_redo f_BargeBasinModel_redo
  rw [if_neg (show ¬ (1 : Int32) = 0 by decide), ev_b _ (noBas h), if_pos rfl, f3, m2]
  by_cases d0 : T.length - D = 0
  · rw [if_pos (show nI (T.length - D) = 0 by rw [d0]; rfl), if_pos (show nI (T.length - D) = 0 by rw [d0]; rfl)]
    refine ⟨0, 11, ct, cp, ld, nI (T.length - D), um, nI (T.length - D), kat, ub, uf, ut, P, rfl, rfl, hP, c5, c7, r7, T, S, D, t1', ?_, ?_⟩
    · rw [f3] at t2'; exact t2'
    · rw [m2] at t3'; exact t3'
  · have dn : ¬ nI (T.length - D) = 0 := nI_ne0 (by omega) (by omega)
    obtain ⟨k1, k2, k3, k4⟩ := a5 D (by omega)
    obtain ⟨u1, u2, u3⟩ := m4 (T.length - D - 1) (by omega)
    rw [show T.length - 1 - (T.length - D - 1) = D by omega] at u1 u2 u3
    rw [show T.length - (T.length - D - 1) = D + 1 by omega] at u3
    have sE := a4 (D + 1) (by omega)
    rw [a3] at k3 k4 u2
    have p64 := ins_64 h hP.1.1 k2
    have hv : nI (P (cT T D / 32)) + nI (cT T D % 8) * sv_STEP (cT T D / 8 % 4) = nI (S (D + 1) (cT T D / 32)) := by
      rw [(step32 _ p64 (cT T D % 8) (by omega) (cT T D / 8 % 4) (by omega)).1, ← ofInt_nI]
      refine congrArg Int32.ofInt ?_
      rw [k4]
    obtain ⟨kt', e1, q1, q2⟩ := s_shift h hP.1 (by rw [← k3]; exact sE.1) c6 c7 c5 k2 (show cT T D / 8 % 4 < 4 by omega) hv
    rw [← k3] at q1 q2
    have dm : nI (T.length - D) - 1 = nI (T.length - D - 1) := pk_sub (a := T.length - D) (b := 1) (by omega)
    have lb : f_Log_forth (nI f) (nI D) (nI (T.length - D)) lm = some (nI (cT T D), nI (D + 1), nI (T.length - (D + 1))) := by
      unfold f_Log_forth
      rw [ev_div _ (by decide), nI_add, rem60 (by omega), ev_grdN _ (show (f + D) % 60 < 60 by omega) (by decide), ev_bnd, ev_bnd, ev_bnd, nI_clamp (by omega), f4 D (by omega), nI_1, dm, show T.length - D - 1 = T.length - (D + 1) by omega]
    have b12 : cT T D / 32 < 12 := by omega
    have katE : chP B (S (D + 1)) (upd kat (cT T D / 32) (nI (S (D + 1) (cT T D / 32)))) := by
      have := chP_upd (b := cT T D / 32) (q := S (D + 1) (cT T D / 32)) r7
      rw [← k3] at this; exact this
    rw [if_neg dn, if_neg dn, f1, f2, ev_b _ lb, un3_ap, ev_b _ (s_bargeOf _ k1), ev_b _ (s_dirOf _ k1), ev_b _ (s_stepsOf _ k1), ev_b _ e1, un2_ap, ev_bnd, dm, m1]
    simp only [ev_grdN _ (show D < 60 by omega) (show 60 < 2 ^ 31 by decide), ev_grdN _ (show T.length - D - 1 < 60 by omega) (show 60 < 2 ^ 31 by decide), ev_bnd, nI_clamp (show D < 2 ^ 31 by omega), nI_clamp (show T.length - D - 1 < 2 ^ 31 by omega), u1, u2, u3, ev_grdN _ b12 (show 12 < 2 ^ 31 by decide), cl_nI b12, nI_1]
    refine ⟨1, 0, kt', _, _, _, _, _, _, _, _, _, S (D + 1), rfl, rfl, sE, q1, q2, katE, T, S, D + 1, ⟨a1, by omega, rfl, a4, a5⟩, ⟨f, rfl, f60, rfl, rfl, f4⟩, rfl, by rw [show T.length - D - 1 = T.length - (D + 1) by omega], fun k hk => ?_, fun j hj => m4 j (by omega)⟩
    by_cases z : k = D
    · subst z
      rw [pk_us, pk_us, pk_us, a3]
      exact ⟨rfl, rfl, rfl⟩
    · rw [pk_un z, pk_un z, pk_un z]
      exact m3 k (by omega)
