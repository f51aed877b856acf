/-! follow: both sides go the same way. -/
theorem sub_le0 {a k : Nat} (ha : a < 6000) (hk : k < 2 ^ 31) (h : a ≤ k) : nI a - nI k ≤ 0 := by
  rw [Int32.le_iff_toInt_le, Int32.toInt_sub, nI_toInt (by omega), nI_toInt hk]
  have e : ((a : Int) - k).bmod (2 ^ 32) = (a : Int) - k := Int.bmod_eq_of_le_mul_two (by omega) (by omega)
  rw [e]
  show (a : Int) - k ≤ 0
  omega
theorem fol {B : Bas} {cs : List Nat} {k m : Nat} {cw chh cn : Int32} {cwl : Int64} {ck cl cg ca cwd chg : Nat → Int32} {cse : Nat → Int64} {kwl kk ks ky kg : Nat → Int32} {psz khp kpm : Int32} {pm pb pw ps rb rf rt : Nat → Int32} (h : basOk B) (hpl : plR cs psz pm khp kpm pb pw ps) (hk : k < cs.length) (hm : m < 2 ^ 31) (w1 w2 w3 : Int32) :
    ∀ (r n f1 f2 : Nat) (P : Nat → Nat) (ct : Int64) (cp kat : Nat → Int32) (lf ld lu um rm : Int32) (lm ub uf ut kwho khe : Nat → Int32), n + r = min m (cs.length - k) → r < f1 → r + 1 < f2 → stC B P → chX B P cw chh cn cwl ct ck cp cl cg ca cwd chg cse → rfX B P 1 (nI (bw B)) (nI (bh B)) (nI (bn B)) kwl kk kat ks ky kg → lgR B P lf ld lu lm um rm ub uf ut rb rf rt →
      ∃ (n' : Nat) (ct' : Int64) (cp' kat' : Nat → Int32) (lf' ld' lu' um' rm' : Int32) (lm' ub' uf' ut' kwho' khe' : Nat → Int32) (Q : Nat → Nat),
        (f_BargeBasin_follow_plan11_L46 (nI m) cw chh cn cwl ck ca cwd chg cse psz pm f1 (nI n) (nI (k + n)) ct cp lf ld lu lm = some (.inr (nI n', ct', cp', lf', ld', lu', lm')) ∨ f_BargeBasin_follow_plan11_L46 (nI m) cw chh cn cwl ck ca cwd chg cse psz pm f1 (nI n) (nI (k + n)) ct cp lf ld lu lm = some (.inl (nI n', ct', cp', lf', ld', lu', lm'))) ∧
        f_BargeBasinModel_follow_L56 (nI k) (nI m) (nI (bw B)) (nI (bh B)) (nI (bn B)) kpm kwl kk ks ky pb pw ps f2 (nI n) 1 um rm w1 w2 w3 kat ub uf ut kwho khe = some (nI n', um', rm', w1, w2, w3, kat', ub', uf', ut', kwho', khe') ∧
        stC B Q ∧ chT B Q ct' ∧ chP B Q cp' ∧ chP B Q kat' ∧ lgR B Q lf' ld' lu' lm' um' rm' ub' uf' ut' rb rf rt := by
  have n12 := h.2.2.2.2.1
  obtain ⟨l6, c4, e1, wr, e2, e3, pw'⟩ := hpl
  subst e1; subst e2; subst e3
  have sub : nI cs.length - nI k = nI (cs.length - k) := pk_sub (by omega)
  intro r
  induction r with
  | zero =>
    intro n f1 f2 P ct cp kat lf ld lu um rm lm ub uf ut kwho khe h1 h2 h3 hP hc hr hl
    obtain ⟨f1, rfl⟩ : ∃ z, f1 = z + 1 := ⟨f1 - 1, by omega⟩
    obtain ⟨f2, rfl⟩ : ∃ z, f2 = z + 1 := ⟨f2 - 1, by omega⟩
    refine ⟨n, ct, cp, kat, lf, ld, lu, um, rm, lm, ub, uf, ut, kwho, khe, P, Or.inl ?_, ?_, hP, hc.2.2.2.2.1, hc.2.2.2.2.2.2.1, hr.2.2.2.2.2.2.1, hl⟩
    · rw [f_BargeBasin_follow_plan11_L46]
      by_cases z : cs.length ≤ k + n
      · rw [if_pos (nI_le z (by omega))]
      · rw [if_neg (nI_ge (by omega) (by omega)), if_pos (nI_le (by omega) (by omega))]
    · rw [f_BargeBasinModel_follow_L56, if_neg (show ¬ (1 : Int32) = 0 by decide), sub]
      by_cases z : m ≤ n
      · rw [if_pos (nI_le z (by omega))]
      · rw [if_neg (nI_ge (by omega) (by omega)), if_pos (nI_le (by omega) (by omega))]
  | succ r ih =>
    intro n f1 f2 P ct cp kat lf ld lu um rm lm ub uf ut kwho khe h1 h2 h3 hP hc hr hl
    obtain ⟨f1, rfl⟩ : ∃ z, f1 = z + 1 := ⟨f1 - 1, by omega⟩
    obtain ⟨f2, rfl⟩ : ∃ z, f2 = z + 1 := ⟨f2 - 1, by omega⟩
    have hkn : k + n < cs.length := by omega
    have c := c4 _ (List.getElem_mem hkn)
    obtain ⟨p1, p2, p3⟩ := pw' (k + n) hkn
    have wv := wr (k + n) hkn
    generalize cs[k + n] = cc at *
    have ev1 : ∀ X, (jb (some (nI (cc / 32))) (fun r_15 => if cn ≤ r_15 then some (.inr (nI n, ct, cp, lf, ld, lu, lm)) else jb (f_BargeBasin_slides (nI (cc / 32)) (nI (cc / 8 % 4)) (nI (cc % 8)) cw chh cwl ct ck cp ca cwd chg cse lf ld lu lm) (un7 (fun r_28 Ctaken_29 Cplace_30 k_log_first_31 k_log_done_32 k_log_undone_33 k_log_moves_34 => if r_28 = 0 then some (.inl (nI n, Ctaken_29, Cplace_30, k_log_first_31, k_log_done_32, k_log_undone_33, k_log_moves_34)) else f_BargeBasin_follow_plan11_L46 (nI m) cw chh cn cwl ck ca cwd chg cse (nI cs.length) pm f1 (nI (n + 1)) (nI (k + n + 1)) Ctaken_29 Cplace_30 k_log_first_31 k_log_done_32 k_log_undone_33 k_log_moves_34)))) = X → f_BargeBasin_follow_plan11_L46 (nI m) cw chh cn cwl ck ca cwd chg cse (nI cs.length) pm (f1 + 1) (nI n) (nI (k + n)) ct cp lf ld lu lm = X := by
      intro X hX
      rw [f_BargeBasin_follow_plan11_L46, if_neg (nI_ge hkn (by omega)), if_neg (nI_ge (show n < m by omega) (by omega)), ev_grdN _ (show k + n < 6000 by omega) (by decide), ev_bnd, nI_clamp (show k + n < 2 ^ 31 by omega), wv, s_bargeOf _ c, s_dirOf _ c, s_stepsOf _ c, ← hX]
      simp only [ev_b _ rfl, ev_bnd, nI_1]
    have ev2 : ∀ X, (jb (f_BargeBasinModel_isBarge (nI (cc / 32)) (nI (bn B))) (fun r_14 => if r_14 = 0 then f_BargeBasinModel_follow_L56 (nI k) (nI m) (nI (bw B)) (nI (bh B)) (nI (bn B)) (nI cs.length) kwl kk ks ky pb pw ps f2 (nI n) 0 um rm w1 w2 w3 kat ub uf ut kwho khe else jb (f_BargeBasinModel_slidesQuietly (nI (cc / 32)) (nI (cc / 8 % 4)) (nI (cc % 8)) (nI (bw B)) (nI (bh B)) (nI (bn B)) um rm w1 w2 w3 kwl kk kat ks ky ub uf ut kwho khe) (un12 (fun r_24 a b w1' w2' w3' kat' ub' uf' ut' kw' kh' => if r_24 = 0 then f_BargeBasinModel_follow_L56 (nI k) (nI m) (nI (bw B)) (nI (bh B)) (nI (bn B)) (nI cs.length) kwl kk ks ky pb pw ps f2 (nI n) 0 a b w1' w2' w3' kat' ub' uf' ut' kw' kh' else f_BargeBasinModel_follow_L56 (nI k) (nI m) (nI (bw B)) (nI (bh B)) (nI (bn B)) (nI cs.length) kwl kk ks ky pb pw ps f2 (nI (n + 1)) 1 a b w1' w2' w3' kat' ub' uf' ut' kw' kh')))) = X →
        f_BargeBasinModel_follow_L56 (nI k) (nI m) (nI (bw B)) (nI (bh B)) (nI (bn B)) (nI cs.length) kwl kk ks ky pb pw ps (f2 + 1) (nI n) 1 um rm w1 w2 w3 kat ub uf ut kwho khe = X := by
      intro X hX
      rw [f_BargeBasinModel_follow_L56, if_neg (show ¬ (1 : Int32) = 0 by decide), sub, if_neg (nI_ge (show n < m by omega) (by omega)), if_neg (nI_ge (show n < cs.length - k by omega) (by omega)), ev_bnd, nI_add, ev_grdN _ (show k + n < 6000 by omega) (by decide), ev_grdN _ (show k + n < 6000 by omega) (by decide), ev_grdN _ (show k + n < 6000 by omega) (by decide), ev_grdN _ (show k + n < 6000 by omega) (by decide), nI_clamp (show k + n < 2 ^ 31 by omega), p1, p2, p3, ← hX]
      simp only [if_true, if_neg (show ¬ (1 : Int32) = 0 by decide), ev_bnd, nI_1, show nI n + 0 = nI n from Int32.add_zero _]
    have halt : ∀ (a b : Int32) (kat' ub' uf' ut' kw' kh' : Nat → Int32), f_BargeBasinModel_follow_L56 (nI k) (nI m) (nI (bw B)) (nI (bh B)) (nI (bn B)) (nI cs.length) kwl kk ks ky pb pw ps f2 (nI n) 0 a b w1 w2 w3 kat' ub' uf' ut' kw' kh' = some (nI n, a, b, w1, w2, w3, kat', ub', uf', ut', kw', kh') := by
      intro a b kat' ub' uf' ut' kw' kh'
      obtain ⟨f3, rfl⟩ : ∃ z, f2 = z + 1 := ⟨f2 - 1, by omega⟩
      rw [f_BargeBasinModel_follow_L56, if_pos rfl]
    by_cases hb : cc / 32 < bn B
    · obtain ⟨T, S, D, t1, t2, t3⟩ := hl
      obtain ⟨A1, A2⟩ := s_slides (b := cc / 32) (d := cc / 8 % 4) (s := cc % 8) h hP hc t1.1 t1.2.1 t2 hb (by omega) (by omega)
      obtain ⟨B1, B2⟩ := m_slides (b := cc / 32) (d := cc / 8 % 4) (s := cc % 8) h hP hr.2.2.2.2.2.1 hr.2.2.2.2.1 hr.2.2.2.2.2.2.1 t1 t3 hb (by omega) (by omega) w1 w2 w3 kwho khe
      have nb : ¬ cn ≤ nI (cc / 32) := by rw [hc.2.2.1]; exact nI_ge hb (by omega)
      by_cases hkk : cc % 8 ≤ room B P (cc / 32) (cc / 8 % 4) false
      · obtain ⟨kt', kp', lf', ld', lu', lm', e1, q1, q2, q3⟩ := A1 hkk
        obtain ⟨um', rm', kat', ub', uf', ut', kw', kh', e2, p1', p2'⟩ := B1 hkk
        have sQ := mv_st h hP hb (show cc / 8 % 4 < 4 by omega) hkk
        have e2' : f_BargeBasinModel_slidesQuietly (nI (cc / 32)) (nI (cc / 8 % 4)) (nI (cc % 8)) (nI (bw B)) (nI (bh B)) (nI (bn B)) um rm w1 w2 w3 kwl kk kat ks ky ub uf ut kwho khe = some (1, um', rm', w1, w2, w3, kat', ub', uf', ut', kw', kh') := by
          unfold f_BargeBasinModel_slidesQuietly
          rw [ev_b _ e2, un12_ap, ev_bool _ (Or.inr rfl)]
        obtain ⟨n', ct'', cp'', kat'', lf'', ld'', lu'', um'', rm'', lm'', ub'', uf'', ut'', kw'', kh'', Q, x1, x2, x3⟩ := ih (n + 1) f1 f2 _ kt' kp' kat' lf' ld' lu' um' rm' lm' ub' uf' ut' kw' kh' (by omega) (by omega) (by omega) sQ ⟨hc.1, hc.2.1, hc.2.2.1, hc.2.2.2.1, q1, hc.2.2.2.2.2.1, q2, hc.2.2.2.2.2.2.2.1, hc.2.2.2.2.2.2.2.2⟩ ⟨rfl, rfl, rfl, rfl, hr.2.2.2.2.1, hr.2.2.2.2.2.1, p1', hr.2.2.2.2.2.2.2⟩ ⟨_, _, _, sl_new h hP t1 hb (show cc / 8 % 4 < 4 by omega) hkk, q3, p2'⟩
        refine ⟨n', ct'', cp'', kat'', lf'', ld'', lu'', um'', rm'', lm'', ub'', uf'', ut'', kw'', kh'', Q, ?_, ?_, x3⟩
        · rcases x1 with y | y
          · left
            apply ev1
            rw [ev_b _ rfl, if_neg nb, ev_b _ e1, un7_ap, if_neg (show ¬ (1 : Int32) = 0 by decide)]
            exact y
          · right
            apply ev1
            rw [ev_b _ rfl, if_neg nb, ev_b _ e1, un7_ap, if_neg (show ¬ (1 : Int32) = 0 by decide)]
            exact y
        · apply ev2
          rw [ev_b _ (ib_c h hb), if_neg (show ¬ (1 : Int32) = 0 by decide), ev_b _ e2', un12_ap, if_neg (show ¬ (1 : Int32) = 0 by decide), x2]
      · have e1 := A2 hkk
        obtain ⟨o, kw', kh', e2, -⟩ := B2 hkk
        have e2' : f_BargeBasinModel_slidesQuietly (nI (cc / 32)) (nI (cc / 8 % 4)) (nI (cc % 8)) (nI (bw B)) (nI (bh B)) (nI (bn B)) um rm w1 w2 w3 kwl kk kat ks ky ub uf ut kwho khe = some (0, um, rm, w1, w2, w3, kat, ub, uf, ut, kw', kh') := by
          unfold f_BargeBasinModel_slidesQuietly
          rw [ev_b _ e2, un12_ap, ev_bool _ (Or.inl rfl)]
        refine ⟨n, ct, cp, kat, lf, ld, lu, um, rm, lm, ub, uf, ut, kw', kh', P, Or.inr ?_, ?_, hP, hc.2.2.2.2.1, hc.2.2.2.2.2.2.1, hr.2.2.2.2.2.2.1, T, S, D, t1, t2, t3⟩
        · apply ev1
          rw [ev_b _ rfl, if_neg nb, ev_b _ e1, un7_ap, if_pos rfl]
        · apply ev2
          rw [ev_b _ (ib_c h hb), if_neg (show ¬ (1 : Int32) = 0 by decide), ev_b _ e2', un12_ap, if_pos rfl, halt]
    · refine ⟨n, ct, cp, kat, lf, ld, lu, um, rm, lm, ub, uf, ut, kwho, khe, P, Or.inl ?_, ?_, hP, hc.2.2.2.2.1, hc.2.2.2.2.2.2.1, hr.2.2.2.2.2.2.1, hl⟩
      · apply ev1
        rw [ev_b _ rfl, if_pos (show cn ≤ nI (cc / 32) by rw [hc.2.2.1]; exact nI_le (by omega) (by omega))]
      · apply ev2
        rw [ev_b _ (ib_cn (Or.inr (nI_le (show bn B ≤ cc / 32 by omega) (by omega)))), if_pos rfl, halt]
theorem eq_follow {B : Bas} {P : Nat → Nat} {cs : List Nat} {cw chh cn : Int32} {cwl ct : Int64} {ck cp cl cg ca cwd chg : Nat → Int32} {cse : Nat → Int64} {khas kw kh kn : Int32} {kwl kk kat ks ky kg : Nat → Int32} {lf ld lu um rm : Int32} {lm ub uf ut rb rf rt : Nat → Int32} {psz khp kpm : Int32} {pm pb pw ps : Nat → Int32} (h : basOk B) (hP : stC B P) (hc : chX B P cw chh cn cwl ct ck cp cl cg ca cwd chg cse) (hr : rfX B P khas kw kh kn kwl kk kat ks ky kg) (hl : lgR B P lf ld lu lm um rm ub uf ut rb rf rt) (hpl : plR cs psz pm khp kpm pb pw ps) (v1 v2 st st2 th w1 w2 w3 : Int32) (kwho khe : Nat → Int32) :
    ∃ (ans st' : Int32) (ct' : Int64) (cp' : Nat → Int32) (lf' ld' lu' : Int32) (lm' : Nat → Int32) (um' rm' : Int32) (kat' ub' uf' ut' kwho' khe' : Nat → Int32) (Q : Nat → Nat), f_BargeBasin_follow_plan11 v1 v2 st cw chh cn cwl ct ck cp ca cwd chg cse lf ld lu lm psz pm = some (ans, st', ct', cp', lf', ld', lu', lm') ∧
      f_BargeBasinModel_follow v1 v2 st2 th khas kw kh kn um rm w1 w2 w3 khp kpm kwl kk kat ks ky ub uf ut pb pw ps kwho khe = some (ans, st', 0, um', rm', w1, w2, w3, kat', ub', uf', ut', kwho', khe') ∧
      stC B Q ∧ chT B Q ct' ∧ chP B Q cp' ∧ chP B Q kat' ∧ lgR B Q lf' ld' lu' lm' um' rm' ub' uf' ut' rb rf rt := by
  have hr' := hr
  obtain ⟨r1, r2, r3, r4, r5, r6, r7, r8⟩ := hr
  subst r1; subst r2; subst r3; subst r4
  have hpl' := hpl
  obtain ⟨l6, c4, e1, wr, e2, e3, pw'⟩ := hpl
  subst e1; subst e2; subst e3
  unfold f_BargeBasin_follow_plan11 f_BargeBasinModel_follow
  rw [if_neg (show ¬ (1 : Int32) = 0 by decide), show f_BargeBasin_hasNoBasin cw = some 0 by rw [hc.1]; exact noBas h, ev_b _ rfl, if_pos rfl]
  by_cases a : v1 < 0
  · rw [if_pos a, if_pos a]
    exact ⟨-1, 2, ct, cp, lf, ld, lu, lm, um, rm, kat, ub, uf, ut, kwho, khe, P, rfl, rfl, hP, hc.2.2.2.2.1, hc.2.2.2.2.2.2.1, r7, hl⟩
  · rw [if_neg a, if_neg a]
    by_cases b : 0 ≤ v2
    · rw [if_pos b, if_pos b]
      obtain ⟨k, hk, ek⟩ := nI_of a
      obtain ⟨m, hm, em⟩ := nI_of (x := v2) (fun z => by
        rw [Int32.lt_iff_toInt_lt] at z
        rw [Int32.le_iff_toInt_le] at b
        omega)
      subst ek; subst em
      by_cases kl : k < cs.length
      · obtain ⟨n', ct', cp', kat', lf', ld', lu', um', rm', lm', ub', uf', ut', kw', kh', Q, x1, x2, x3⟩ := fol (m := m) h hpl' kl hm w1 w2 w3 (min m (cs.length - k)) 0 jN jN P ct cp kat lf ld lu um rm lm ub uf ut kwho khe (by omega) (by show _ < 2000000; omega) (by show _ < 2000000; omega) hP hc hr' hl
        rw [nI_0, Nat.add_zero] at x1
        rw [nI_0] at x2
        rw [ev_b _ x2, un12_ap]
        rcases x1 with y | y
        · rw [ev_b _ y, jsel_r, un7_ap]
          exact ⟨nI n', 0, ct', cp', lf', ld', lu', lm', um', rm', kat', ub', uf', ut', kw', kh', Q, rfl, rfl, x3⟩
        · rw [ev_b _ y, jsel_l, un7_ap]
          exact ⟨nI n', 0, ct', cp', lf', ld', lu', lm', um', rm', kat', ub', uf', ut', kw', kh', Q, rfl, rfl, x3⟩
      · have y1 : f_BargeBasin_follow_plan11_L46 (nI m) cw chh cn cwl ck ca cwd chg cse (nI cs.length) pm jN 0 (nI k) ct cp lf ld lu lm = some (.inr (0, ct, cp, lf, ld, lu, lm)) := by
          rw [show jN = 1999999 + 1 from rfl, f_BargeBasin_follow_plan11_L46, if_pos (nI_le (by omega) hk)]
        have y2 : f_BargeBasinModel_follow_L56 (nI k) (nI m) (nI (bw B)) (nI (bh B)) (nI (bn B)) (nI cs.length) kwl kk ks ky pb pw ps jN 0 1 um rm w1 w2 w3 kat ub uf ut kwho khe = some (0, um, rm, w1, w2, w3, kat, ub, uf, ut, kwho, khe) := by
          rw [show jN = 1999999 + 1 from rfl, f_BargeBasinModel_follow_L56, if_neg (show ¬ (1 : Int32) = 0 by decide), if_pos (sub_le0 l6 hk (by omega))]
          split <;> rfl
        rw [ev_b _ y1, jsel_r, un7_ap, ev_b _ y2, un12_ap]
        exact ⟨0, 0, ct, cp, lf, ld, lu, lm, um, rm, kat, ub, uf, ut, kwho, khe, P, rfl, rfl, hP, hc.2.2.2.2.1, hc.2.2.2.2.2.2.1, r7, hl⟩
    · rw [if_neg b, if_neg b]
      exact ⟨-1, 2, ct, cp, lf, ld, lu, lm, um, rm, kat, ub, uf, ut, kwho, khe, P, rfl, rfl, hP, hc.2.2.2.2.1, hc.2.2.2.2.2.2.1, r7, hl⟩
