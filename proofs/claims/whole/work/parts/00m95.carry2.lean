/-! carry: both sides. -/
theorem if4 {α : Type} {c1 c2 c3 c4 : Prop} [Decidable c1] [Decidable c2] [Decidable c3] [Decidable c4] {X G : α} (h : ¬ (¬ c1 ∧ ¬ c2 ∧ ¬ c3 ∧ c4)) : (if c1 then X else if c2 then X else if c3 then X else if c4 then G else X) = X := by
  by_cases a1 : c1
  · rw [if_pos a1]
  · rw [if_neg a1]
    by_cases a2 : c2
    · rw [if_pos a2]
    · rw [if_neg a2]
      by_cases a3 : c3
      · rw [if_pos a3]
      · rw [if_neg a3, if_neg (fun a4 => h ⟨a1, a2, a3, a4⟩)]
theorem eq_carry {B : Bas} {P : Nat → Nat} {cw chh cn : Int32} {cwl ct : Int64} {ck cp cl cg ca cwd chg : Nat → Int32} {cs : Nat → Int64} {khas kw kh kn : Int32} {kwl kk kat ks ky kg : Nat → Int32} {lf ld lu um rm : Int32} {lm ub uf ut rb rf rt : Nat → Int32} {csort csize cnum lsort lmany lnum : Nat → Int32} (h : basOk B) (hP : stC B P) (hc : chX B P cw chh cn cwl ct ck cp cl cg ca cwd chg cs) (hr : rfX B P khas kw kh kn kwl kk kat ks ky kg) (hl : lgR B P lf ld lu lm um rm ub uf ut rb rf rt) (hn : lnR B csort csize cnum lsort lmany lnum) (v1 v2 v3 v4 v5 st st2 th : Int32) (car kwho khe old : Nat → Int32) :
    ∃ (ans st' : Int32) (cnum' car' : Nat → Int32) (cwl' : Int64) (ld' lu' um' rm' : Int32) (lnum' kwl' kwho' khe' old' : Nat → Int32) (B' : Bas), f_BargeBasin_carry v1 v2 v3 v4 v5 st csort csize cnum car cw chh cwl ct ld lu = some (ans, st', cnum', car', cwl', ld', lu') ∧
      f_BargeBasinModel_carry v1 v2 v3 v4 v5 st2 th khas kw kh kn um rm lsort lmany lnum kwl kk kat ks ky kwho khe old = some (ans, st', 0, um', rm', lnum', kwl', kwho', khe', old') ∧
      (B' = B ∨ ∃ y g, B' = rowB B y g) ∧ basOk B' ∧ stC B' P ∧ chX B' P cw chh cn cwl' ct ck cp cl cg ca cwd chg cs ∧ rfX B' P khas kw kh kn kwl' kk kat ks ky kg ∧ lgR B' P lf ld' lu' lm um' rm' ub uf ut rb rf rt ∧ lnR B' csort csize cnum' lsort lmany lnum' := by
  have h8 := h.2.2.2.1
  have w8 := h.2.1
  have t0 : (0 : Int32).toInt = 0 := rfl
  have hc0 := hc
  have hr0 := hr
  obtain ⟨c1, c2, c3, c4, c5, c6, c7, c8, c9⟩ := hc
  obtain ⟨r1, r2, r3, r4, r5, r6, r7, r8⟩ := hr
  subst c1; subst c2; subst r1; subst r2; subst r3; subst r4
  have bad : ∀ (e : Int32) (X : Option (Int32 × Int32 × (Nat → Int32) × (Nat → Int32) × Int64 × Int32 × Int32)) (Y : Option (Int32 × Int32 × Int32 × Int32 × Int32 × (Nat → Int32) × (Nat → Int32) × (Nat → Int32) × (Nat → Int32) × (Nat → Int32))) (kw1 kh1 old1 : Nat → Int32), X = some (0, e, cnum, car, cwl, ld, lu) → Y = some (0, e, 0, um, rm, lnum, kwl, kw1, kh1, old1) →
      ∃ (ans st' : Int32) (cnum' car' : Nat → Int32) (cwl' : Int64) (ld' lu' um' rm' : Int32) (lnum' kwl' kwho' khe' old' : Nat → Int32) (B' : Bas), X = some (ans, st', cnum', car', cwl', ld', lu') ∧ Y = some (ans, st', 0, um', rm', lnum', kwl', kwho', khe', old') ∧
      (B' = B ∨ ∃ y g, B' = rowB B y g) ∧ basOk B' ∧ stC B' P ∧ chX B' P (nI (bw B)) (nI (bh B)) cn cwl' ct ck cp cl cg ca cwd chg cs ∧ rfX B' P 1 (nI (bw B)) (nI (bh B)) (nI (bn B)) kwl' kk kat ks ky kg ∧ lgR B' P lf ld' lu' lm um' rm' ub uf ut rb rf rt ∧ lnR B' csort csize cnum' lsort lmany lnum' := by
    intro e X Y kw1 kh1 old1 hX hY
    exact ⟨0, e, cnum, car, cwl, ld, lu, um, rm, lnum, kwl, kw1, kh1, old1, B, hX, hY, Or.inl rfl, h, hP, hc0, hr0, hl, hn⟩
  unfold f_BargeBasin_carry f_BargeBasin_faultOfCarry f_BargeBasinModel_carry
  rw [ev_b _ (noBas h), if_pos rfl, if_neg (show ¬ (1 : Int32) = 0 by decide)]
  rcases lin (v1 := v1) h with ⟨y, hy, e, l1, l2⟩ | ⟨l1, l2⟩
  · subst e
    have y8 : y < 8 := by omega
    rw [ev_b _ l1, ev_b _ l2, if_pos rfl, if_neg (show ¬ (1 : Int32) = 0 by decide)]
    rcases lin (v1 := v3) h with ⟨z, hz, e, l3, l4⟩ | ⟨l3, l4⟩
    · subst e
      have z8 : z < 8 := by omega
      rw [ev_b _ l3, ev_b _ l4, if_pos rfl, if_neg (show ¬ (1 : Int32) = 0 by decide), ev_b _ (s_missing y8 (hn.1 y y8)), ev_b _ (s_missing z8 (hn.1 z z8))]
      simp only [ev_grdN _ y8 (show 8 < 2 ^ 31 by decide), ev_grdN _ z8 (show 8 < 2 ^ 31 by decide), nI_clamp (show y < 2 ^ 31 by omega), nI_clamp (show z < 2 ^ 31 by omega)]
      rcases hn.1 y y8 with ⟨-, my⟩ | ⟨t1, m1, t13, m18, a1, a2, a3, a4, a5⟩
      · rw [decide_eq_true my, if_neg (show ¬ bI true = 0 by decide), if_pos my]
        exact bad 3 _ _ kwho khe old rfl rfl
      have ny : ¬ lmany y < 0 := by rw [a4]; exact nI_nn (by omega)
      rw [decide_eq_false ny, if_pos (show bI false = 0 by decide), if_neg ny]
      rcases hn.1 z z8 with ⟨-, mz⟩ | ⟨t2, m3, t23, m38, b1, b2, b3, b4, b5⟩
      · rw [decide_eq_true mz, if_neg (show ¬ bI true = 0 by decide), if_neg (show ¬ 0 ≤ lmany z from fun q => absurd mz (Int32.not_lt.mpr q))]
        exact bad 3 _ _ kwho khe old rfl rfl
      have nz : ¬ lmany z < 0 := by rw [b4]; exact nI_nn (by omega)
      rw [decide_eq_false nz, if_pos (show bI false = 0 by decide), if_pos (show 0 ≤ lmany z from Int32.not_lt.mp nz), a1, b1, a2, b2]
      by_cases s1 : nI t1 = nI t2
      · rw [if_pos s1, if_pos s1]
        by_cases s2 : 0 ≤ v5
        · rw [if_pos s2, if_pos s2]
          have v5n : 0 ≤ v5.toInt := by rw [Int32.le_iff_toInt_le, t0] at s2; exact s2
          simp only [cmpG, cmpLE]
          rw [ev_b _ (s_holds y8 m18 a3 v5n), ev_b _ (s_holds z8 m38 b3 v5n)]
          have g1 : ((lmany y).toInt64 < v2.toInt64 + v5.toInt64) = ((m1 : Int) < v2.toInt + v5.toInt) := by rw [a4]; exact long_sum (by omega)
          have g2 : ((lmany z).toInt64 < v4.toInt64 + v5.toInt64) = ((m3 : Int) < v4.toInt + v5.toInt) := by rw [b4]; exact long_sum (by omega)
          simp only [g1, g2]
          by_cases p : (0 ≤ v2.toInt ∧ v2.toInt + v5.toInt ≤ m1) ∧ (0 ≤ v4.toInt ∧ v4.toInt + v5.toInt ≤ m3)
          · have q1 : ¬ v2 < 0 := fun q => by rw [Int32.lt_iff_toInt_lt, t0] at q; omega
            have q2 : ¬ v4 < 0 := fun q => by rw [Int32.lt_iff_toInt_lt, t0] at q; omega
            rw [decide_eq_true p.1, decide_eq_true p.2, if_neg (show ¬ bI true = 0 by decide), if_neg (show ¬ bI true = 0 by decide), if_neg q1, if_neg q2, if_neg (show ¬ (m1 : Int) < v2.toInt + v5.toInt by omega), if_pos (show ¬ (m3 : Int) < v4.toInt + v5.toInt by omega), ev_b _ (rfl : some (0 : Int32) = some 0), if_pos rfl]
            obtain ⟨a, ha, ea⟩ := nI_of (x := v2) q1
            obtain ⟨b, hb, eb⟩ := nI_of (x := v4) q2
            obtain ⟨l, hl', el⟩ := nI_of (x := v5) (Int32.not_lt.mpr s2)
            subst ea; subst eb; subst el
            rw [nI_toInt ha, nI_toInt hb, nI_toInt hl'] at p
            have al : a + l ≤ m1 := by omega
            have bl : b + l ≤ m3 := by omega
            obtain ⟨N, hN⟩ : ∃ N, N = ovr lnum (fun k => lnum (8 * y + (a + k))) z b 0 l := ⟨_, rfl⟩
            obtain ⟨C, hC⟩ : ∃ C, C = ovr cnum (fun k => cnum (8 * y + (a + k))) z b 0 l := ⟨_, rfl⟩
            have nin : ∀ x, b ≤ x → x < b + l → N (8 * z + x) = lnum (8 * y + (a + (x - b))) ∧ C (8 * z + x) = cnum (8 * y + (a + (x - b))) := fun x x1 x2 => by
              rw [hN, hC]
              unfold ovr
              rw [if_pos (by omega), if_pos (by omega), show 8 * z + x - (8 * z + b) = x - b by omega]
              exact ⟨rfl, rfl⟩
            have nou : ∀ f, ¬ (8 * z + b ≤ f ∧ f < 8 * z + b + l) → C f = cnum f ∧ N f = lnum f := fun f hf => by
              rw [hN, hC]
              unfold ovr
              rw [if_neg (by omega), if_neg (by omega)]
              exact ⟨rfl, rfl⟩
            have o1 : ∀ f, f / 8 ≠ z → C f = cnum f ∧ N f = lnum f := fun f hf => nou f (by omega)
            have ey : lnY csort csize C lsort lmany N z := Or.inr ⟨t2, m3, t23, m38, b1, b2, b3, b4, fun i hi => by
              by_cases c : b ≤ i ∧ i < b + l
              · rw [(nin i c.1 c.2).1, (nin i c.1 c.2).2]; exact a5 _ (by omega)
              · rw [(nou (8 * z + i) (by omega)).1, (nou (8 * z + i) (by omega)).2]; exact b5 i hi⟩
            have win : ∀ x, b ≤ x → x < b + l → wlL lmany N z x = decide (¬ lnum (8 * y + (a + (x - b))) = 0) := fun x x1 x2 => by
              unfold wlL
              rw [if_neg nz, b4, if_neg (show ¬ nI m3 ≤ nI x from nI_ge (by omega) (by omega)), (nin x x1 x2).1]
            have wou : ∀ x, ¬ (b ≤ x ∧ x < b + l) → wlL lmany N z x = wlL lmany lnum z x := fun x hx => by
              unfold wlL
              rw [(nou (8 * z + x) (by omega)).2]
            obtain ⟨cwl', f1, x1⟩ := s_linesChanged (st := st) (ld := ld) (lu := lu) h z8 hc0 ey
            obtain ⟨u, kw1, kh1, u1, u2⟩ := m_isUnder (lm := lmany) (ln := N) h hP.1.1 r6 r7 z8 kwho khe
            obtain ⟨v, e1, q3⟩ := s_carL28 (num := cnum) (y := y) (a := a) (z := z) (b := b) (l := l) h c5 y8 z8 (by omega) (by omega) l 0 jN (by omega) (by show l < 2000000; omega)
            obtain ⟨car', e2⟩ := s_copy (num := cnum) (y := y) (a := a) (z := z) (b := b) (l := l) y8 z8 (by omega) (by omega) car
            rw [← hC] at e2
            have e3 := m_carL (num0 := lnum) (y := y) (a := a) (z := z) (b := b) (l := l) (old := fun j => if 0 ≤ j ∧ j < 8 then lnum (8 * z + j) else old j) y8 z8 (by omega) (by omega) (fun j hj => if_pos ⟨Nat.zero_le _, hj⟩) l 0 jN lnum (by omega) (by show l < 2000000; omega) (fun f _ => rfl)
            rw [← hN] at e3
            have uv : v = u := by
              rw [Bool.eq_iff_iff, q3, u2]
              constructor
              · rintro ⟨k, k1, k2, k3, k4, k5⟩
                refine ⟨b + k, k4, ?_, k5⟩
                rw [win _ (by omega) (by omega), show b + k - b = k by omega, decide_eq_true_eq, ← a5 _ (show a + k < m1 by omega)]
                exact k3
              · rintro ⟨x, k1, k2, k3⟩
                by_cases c : b ≤ x ∧ x < b + l
                · rw [win x c.1 c.2, decide_eq_true_eq, ← a5 _ (show a + (x - b) < m1 by omega)] at k2
                  exact ⟨x - b, Nat.zero_le _, by omega, k2, by omega, by rw [show b + (x - b) = x by omega]; exact k3⟩
                · rw [wou x c, ← hn.2.1 z x hz k1, tk_nw hP (by omega) k3] at k2; cases k2
            rw [ev_b _ (show f_BargeBasin_carry_L28 (nI y) (nI a) (nI z) (nI b) (nI l) cnum (nI (bw B)) ct jN 0 = _ from e1), ev_b _ (m_keepLine z8 lnum old), ev_b _ (show f_BargeBasinModel_carry_L160 (nI y) (nI a) (nI z) (nI b) (nI l) _ jN 0 lnum = _ from e3), ev_b _ u1, un3_ap, uv]
            cases hu : u with
            | true =>
              rw [if_neg (show ¬ bI true = 0 by decide), ev_b _ (m_backLine z8 lnum _ old (fun f hf => (o1 f hf).2))]
              exact bad 7 _ _ kw1 kh1 _ rfl rfl
            | false =>
              have ok : stC (rowB B z (wlL lmany N z)) P := rowB_st hP (fun x hx g => by
                rw [← Bool.not_eq_true]
                intro tk
                have := u2.mpr ⟨x, hx, g, tk⟩
                rw [hu] at this; cases this)
              rw [if_pos (show bI false = 0 by decide), ev_b _ (m_walls w8 z8 kwl)]
              refine ⟨1, 0, C, car', cwl', 0, 0, 0, 0, N, _, kw1, kh1, _, rowB B z (wlL lmany N z), ?_, rfl, Or.inr ⟨_, _, rfl⟩, rowB_bas h, ok, x1, rowB_rf hr0 hn.2.2.1, lgR_forget hl ok, rowB_ln hn hz h8 w8 (fun z hz => ⟨rfl, rfl, rfl, rfl⟩) o1 ey⟩
              show jb (f_Lines_copy (nI y) (nI a) (nI z) (nI b) (nI l) cnum car) _ = _
              rw [ev_b _ e2, un2_ap, ev_b _ f1]; rfl
          · rw [if4 (by
              rintro ⟨q1, q2, q3, q4⟩
              rw [Int32.lt_iff_toInt_lt, t0] at q1 q2
              exact p (by omega))]
            by_cases p1 : 0 ≤ v2.toInt ∧ v2.toInt + v5.toInt ≤ m1
            · rw [decide_eq_true p1, decide_eq_false (fun q => p ⟨p1, q⟩), if_neg (show ¬ bI true = 0 by decide), if_pos (show bI false = 0 by decide)]
              exact bad 4 _ _ kwho khe old rfl rfl
            · rw [decide_eq_false p1, if_pos (show bI false = 0 by decide)]
              exact bad 4 _ _ kwho khe old rfl rfl
        · rw [if_neg s2, if_neg s2]; exact bad 6 _ _ kwho khe old rfl rfl
      · rw [if_neg s1, if_neg s1]; exact bad 5 _ _ kwho khe old rfl rfl
    · rw [ev_b _ l3, ev_b _ l4, if_neg (show ¬ (1 : Int32) = 0 by decide), if_pos rfl]
      exact bad 2 _ _ kwho khe old rfl rfl
  · rw [ev_b _ l1, ev_b _ l2, if_neg (show ¬ (1 : Int32) = 0 by decide), if_pos rfl]
    exact bad 2 _ _ kwho khe old rfl rfl
