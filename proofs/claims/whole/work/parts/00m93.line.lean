/-! line of both sides. -/
theorem s_layZ {y : Nat} (hy : y < 8) : ∀ (d i n : Nat) (num : Nat → Int32), i + d = 8 → d < n → f_Lines_lay_L17 (nI y) n (nI i) num = some (fun f => if f / 8 = y ∧ i ≤ f % 8 then 0 else num f) := by
  intro d
  induction d with
  | zero =>
    intro i n num h hn
    obtain ⟨m, rfl⟩ : ∃ m, n = m + 1 := ⟨n - 1, by omega⟩
    have e : i = 8 := by omega
    subst e
    rw [f_Lines_lay_L17, if_pos (show (8 : Int32) ≤ nI 8 by decide)]
    refine congrArg some (funext fun f => ?_)
    rw [if_neg (by omega)]
  | succ d ih =>
    intro i n num h hn
    obtain ⟨m, rfl⟩ : ∃ m, n = m + 1 := ⟨n - 1, by omega⟩
    have e : (8 : Int32) * nI y + nI i = nI (8 * y + i) := by rw [i8, nI_add]
    have wr : f_Lines_write (nI y) (nI i) 0 num = some (upd num (8 * y + i) 0) := by
      unfold f_Lines_write
      rw [e, ev_grdN _ (show 8 * y + i < 64 by omega) (by decide), nI_clamp (by omega)]
    rw [f_Lines_lay_L17, if_neg (show ¬ (8 : Int32) ≤ nI i from nI_ge (b := 8) (show i < 8 by omega) (by decide)), ev_b _ wr, ev_bnd, nI_1, ih (i + 1) m _ (by omega) (by omega)]
    refine congrArg some (funext fun f => ?_)
    by_cases a : f = 8 * y + i
    · rw [if_neg (by omega), if_pos (by omega), a, pk_us]
    · rw [pk_un a]
      by_cases c : f / 8 = y ∧ i + 1 ≤ f % 8
      · rw [if_pos c, if_pos (by omega)]
      · rw [if_neg c, if_neg (by omega)]
theorem m_lineL86 {y : Nat} {v2 v4 : Int32} (hy : y < 8) : ∀ (d i n : Nat) (num : Nat → Int32), i + d = 8 → d < n → f_BargeBasinModel_line_L86 (nI y) v2 v4 n (nI i) num = some (fun f => if f / 8 = y ∧ i ≤ f % 8 then 0 else num f) := by
  intro d
  induction d with
  | zero =>
    intro i n num h hn
    obtain ⟨m, rfl⟩ : ∃ m, n = m + 1 := ⟨n - 1, by omega⟩
    have e : i = 8 := by omega
    subst e
    rw [f_BargeBasinModel_line_L86, if_pos (show (8 : Int32) ≤ nI 8 by decide)]
    refine congrArg some (funext fun f => ?_)
    rw [if_neg (by omega)]
  | succ d ih =>
    intro i n num h hn
    obtain ⟨m, rfl⟩ : ∃ m, n = m + 1 := ⟨n - 1, by omega⟩
    have e : (8 : Int32) * nI y + nI i = nI (8 * y + i) := by rw [i8, nI_add]
    rw [f_BargeBasinModel_line_L86, if_neg (show ¬ (8 : Int32) ≤ nI i from nI_ge (b := 8) (show i < 8 by omega) (by decide)), e, ev_grdN _ (show 8 * y + i < 64 by omega) (by decide), ev_bnd, nI_1, nI_clamp (show 8 * y + i < 2 ^ 31 by omega), ih (i + 1) m _ (by omega) (by omega)]
    refine congrArg some (funext fun f => ?_)
    by_cases a : f = 8 * y + i
    · rw [if_neg (by omega), if_pos (by omega), a, pk_us]
    · rw [pk_un a]
      by_cases c : f / 8 = y ∧ i + 1 ≤ f % 8
      · rw [if_pos c, if_pos (by omega)]
      · rw [if_neg c, if_neg (by omega)]
theorem s_lineL56 {B : Bas} {P : Nat → Nat} {y : Nat} {v2 v3 : Int32} {kt : Int64} (h : basOk B) (ht : chT B P kt) (hy : y < 8) : ∀ (d x n : Nat), bw B ≤ x + d → x ≤ 8 → d < n → ∃ t : Bool, f_BargeBasin_line_L56 (nI y) v2 v3 (nI (bw B)) kt n (nI x) = some (if t then .inl () else .inr ()) ∧ (t = true ↔ ∃ u, x ≤ u ∧ u < bw B ∧ tkA B P (u + 8 * y) = true) := by
  have w8 := h.2.1
  intro d
  induction d with
  | zero =>
    intro x n q x8 hn
    obtain ⟨m, rfl⟩ : ∃ m, n = m + 1 := ⟨n - 1, by omega⟩
    refine ⟨false, ?_, fun z => by (cases z), fun ⟨u, u1, u2, _⟩ => by omega⟩
    rw [f_BargeBasin_line_L56, if_pos (nI_le (show bw B ≤ x by omega) (by omega))]; rfl
  | succ d ih =>
    intro x n q x8 hn
    obtain ⟨m, rfl⟩ : ∃ m, n = m + 1 := ⟨n - 1, by omega⟩
    by_cases c : bw B ≤ x
    · refine ⟨false, ?_, fun z => by (cases z), fun ⟨u, u1, u2, _⟩ => by omega⟩
      rw [f_BargeBasin_line_L56, if_pos (nI_le c (by omega))]; rfl
    · obtain ⟨t, e1, q1⟩ := ih (x + 1) m (by omega) (by omega) (by omega)
      rw [f_BargeBasin_line_L56, if_neg (nI_ge (show x < bw B by omega) (by omega)), ev_b _ (s_isTaken h ht (show x < 8 by omega) hy), decide_eq_true (show x < bw B by omega), Bool.true_and]
      simp only [ev_bnd, nI_1]
      cases k : tkA B P (x + 8 * y) with
      | false =>
        rw [if_pos (show bI false = 0 by decide)]
        refine ⟨t, e1, fun z => ?_, fun ⟨u, u1, u2, u3⟩ => q1.mpr ⟨u, ?_, u2, u3⟩⟩
        · obtain ⟨u, u1, u2, u3⟩ := q1.mp z
          exact ⟨u, by omega, u2, u3⟩
        · by_cases z : u = x
          · rw [z, k] at u3; cases u3
          · omega
      | true =>
        rw [if_neg (show ¬ bI true = 0 by decide)]
        exact ⟨true, rfl, fun _ => ⟨x, Nat.le_refl _, by omega, k⟩, fun _ => rfl⟩
theorem eq_line {B : Bas} {P : Nat → Nat} {cw chh cn : Int32} {cwl ct : Int64} {ck cp cl cg ca cwd chg : Nat → Int32} {cs : Nat → Int64} {khas kw kh kn : Int32} {kwl kk kat ks ky kg : Nat → Int32} {lf ld lu um rm : Int32} {lm ub uf ut rb rf rt : Nat → Int32} {csort csize cnum lsort lmany lnum : Nat → Int32} (h : basOk B) (hP : stC B P) (hc : chX B P cw chh cn cwl ct ck cp cl cg ca cwd chg cs) (hr : rfX B P khas kw kh kn kwl kk kat ks ky kg) (hl : lgR B P lf ld lu lm um rm ub uf ut rb rf rt) (hn : lnR B csort csize cnum lsort lmany lnum) (v1 v2 v3 st st2 th : Int32) (kwho khe old : Nat → Int32) :
    ∃ (ans st' : Int32) (csort' csize' cnum' : Nat → Int32) (cwl' : Int64) (ld' lu' um' rm' : Int32) (lsort' lmany' lnum' kwl' kwho' khe' old' : Nat → Int32) (B' : Bas), f_BargeBasin_line v1 v2 v3 st csort csize cnum cw chh cwl ct ld lu = some (ans, st', csort', csize', cnum', cwl', ld', lu') ∧
      f_BargeBasinModel_line v1 v2 v3 st2 th khas kw kh kn um rm lsort lmany lnum kwl kk kat ks ky kwho khe old = some (ans, st', 0, um', rm', lsort', lmany', lnum', kwl', kwho', khe', old') ∧
      (B' = B ∨ ∃ y g, B' = rowB B y g) ∧ basOk B' ∧ stC B' P ∧ chX B' P cw chh cn cwl' ct ck cp cl cg ca cwd chg cs ∧ rfX B' P khas kw kh kn kwl' kk kat ks ky kg ∧ lgR B' P lf ld' lu' lm um' rm' ub uf ut rb rf rt ∧ lnR B' csort' csize' cnum' lsort' lmany' lnum' := by
  have h8 := h.2.2.2.1
  have w8 := h.2.1
  have hc0 := hc
  have hr0 := hr
  obtain ⟨c1, c2, c3, c4, c5, c6, c7, c8, c9⟩ := hc
  obtain ⟨r1, r2, r3, r4, r5, r6, r7, r8⟩ := hr
  subst c1; subst c2; subst r1; subst r2; subst r3; subst r4
  have bad : ∀ (e : Int32) (X : Option (Int32 × Int32 × (Nat → Int32) × (Nat → Int32) × (Nat → Int32) × Int64 × Int32 × Int32)) (Y : Option (Int32 × Int32 × Int32 × Int32 × Int32 × (Nat → Int32) × (Nat → Int32) × (Nat → Int32) × (Nat → Int32) × (Nat → Int32) × (Nat → Int32) × (Nat → Int32))) (kw1 kh1 old1 : Nat → Int32), X = some (0, e, csort, csize, cnum, cwl, ld, lu) → Y = some (0, e, 0, um, rm, lsort, lmany, lnum, kwl, kw1, kh1, old1) →
      ∃ (ans st' : Int32) (csort' csize' cnum' : Nat → Int32) (cwl' : Int64) (ld' lu' um' rm' : Int32) (lsort' lmany' lnum' kwl' kwho' khe' old' : Nat → Int32) (B' : Bas), X = some (ans, st', csort', csize', cnum', cwl', ld', lu') ∧ Y = some (ans, st', 0, um', rm', lsort', lmany', lnum', kwl', kwho', khe', old') ∧
      (B' = B ∨ ∃ y g, B' = rowB B y g) ∧ basOk B' ∧ stC B' P ∧ chX B' P (nI (bw B)) (nI (bh B)) cn cwl' ct ck cp cl cg ca cwd chg cs ∧ rfX B' P 1 (nI (bw B)) (nI (bh B)) (nI (bn B)) kwl' kk kat ks ky kg ∧ lgR B' P lf ld' lu' lm um' rm' ub uf ut rb rf rt ∧ lnR B' csort' csize' cnum' lsort' lmany' lnum' := by
    intro e X Y kw1 kh1 old1 hX hY
    exact ⟨0, e, csort, csize, cnum, cwl, ld, lu, um, rm, lsort, lmany, lnum, kwl, kw1, kh1, old1, B, hX, hY, Or.inl rfl, h, hP, hc0, hr0, hl, hn⟩
  unfold f_BargeBasin_line f_BargeBasinModel_line
  rw [ev_b _ (noBas h), if_pos rfl, if_neg (show ¬ (1 : Int32) = 0 by decide)]
  rcases lin (v1 := v1) h with ⟨y, hy, e, l1, l2⟩ | ⟨l1, l2⟩
  · subst e
    have y8 : y < 8 := by omega
    rw [ev_b _ l1, ev_b _ l2, if_pos rfl, if_neg (show ¬ (1 : Int32) = 0 by decide)]
    by_cases a1 : v2 < 0
    · rw [if_pos a1, if_pos a1]; exact bad 2 _ _ kwho khe old rfl rfl
    rw [if_neg a1, if_neg a1]
    by_cases a2 : (2 : Int32) < v2
    · rw [if_pos a2, if_pos a2]; exact bad 2 _ _ kwho khe old rfl rfl
    rw [if_neg a2, if_neg a2]
    by_cases a3 : v3 ≤ 8
    · rw [if_pos a3, if_pos a3]
      by_cases a4 : 0 ≤ v3
      · rw [if_pos a4, if_pos a4]
        obtain ⟨t, ht, et⟩ := nI_of (x := v2) a1
        obtain ⟨m, hm, em⟩ := nI_of (x := v3) (Int32.not_lt.mpr a4)
        subst et; subst em
        have t3 : t < 3 := by
          have : ((2 : Int32) < nI t) = (2 < t) := nI_ltE (a := 2) (by decide) ht
          rw [this] at a2; omega
        have m8 : m ≤ 8 := by
          have : (nI m ≤ (8 : Int32)) = (m ≤ 8) := nI_leE (b := 8) hm (by decide)
          rw [this] at a3; exact a3
        obtain ⟨zn, hzn⟩ : ∃ zn : Nat → Int32, zn = fun f => if f / 8 = y ∧ 0 ≤ f % 8 then 0 else lnum f := ⟨_, rfl⟩
        obtain ⟨zc, hzc⟩ : ∃ zc : Nat → Int32, zc = fun f => if f / 8 = y ∧ 0 ≤ f % 8 then 0 else cnum f := ⟨_, rfl⟩
        have o1 : ∀ f, f / 8 ≠ y → zc f = cnum f ∧ zn f = lnum f := fun f hf => by
          rw [hzn, hzc]
          exact ⟨if_neg (fun q => hf q.1), if_neg (fun q => hf q.1)⟩
        have o2 : ∀ i, i < 8 → zc (8 * y + i) = 0 ∧ zn (8 * y + i) = 0 := fun i hi => by
          rw [hzn, hzc]
          exact ⟨if_pos ⟨by omega, Nat.zero_le _⟩, if_pos ⟨by omega, Nat.zero_le _⟩⟩
        have ey : lnY (upd csort y (nI t)) (upd csize y (nI m)) zc (upd lsort y (nI t)) (upd lmany y (nI m)) zn y := Or.inr ⟨t, m, t3, m8, pk_us, pk_us, pk_us, pk_us, fun i hi => by rw [(o2 i (by omega)).1, (o2 i (by omega)).2]⟩
        have wl : ∀ x, x < 8 → wlL (upd lmany y (nI m)) zn y x = decide (m ≤ x) := fun x hx => by
          unfold wlL
          have el : (nI m ≤ nI x) = (m ≤ x) := nI_leE (by omega) (by omega)
          rw [pk_us, if_neg (nI_nn (by omega)), (o2 x hx).2]
          simp only [el]
          by_cases c : m ≤ x
          · rw [if_pos c, decide_eq_true c]
          · rw [if_neg c, decide_eq_false c]; simp
        obtain ⟨cwl', g1, x1⟩ := s_linesChanged (st := st) (ld := ld) (lu := lu) h y8 hc0 ey
        obtain ⟨u, kw1, kh1, u1, u2⟩ := m_isUnder (lm := upd lmany y (nI m)) (ln := zn) h hP.1.1 r6 r7 y8 kwho khe
        obtain ⟨v, e1, q1⟩ := s_lineL56 (v2 := nI t) (v3 := nI m) h c5 y8 (bw B) m jN (by omega) m8 (by show bw B < 2000000; omega)
        have uv : v = u := by
          rw [Bool.eq_iff_iff, q1, u2]
          constructor
          · rintro ⟨x, z1, z2, z3⟩; exact ⟨x, z2, by rw [wl x (by omega), decide_eq_true z1], z3⟩
          · rintro ⟨x, z1, z2, z3⟩
            rw [wl x (by omega), decide_eq_true_eq] at z2
            exact ⟨x, z2, z1, z3⟩
        have m86 := m_lineL86 (v2 := nI t) (v4 := lmany y) y8 8 0 jN lnum (by omega) (by show 8 < 2000000; omega)
        rw [← hzn] at m86
        have l17 := s_layZ y8 8 0 jN cnum (by omega) (by show 8 < 2000000; omega)
        rw [← hzc] at l17
        have lay : f_Lines_lay (nI y) (nI t) (nI m) csort csize cnum = some (upd csort y (nI t), upd csize y (nI m), zc) := by
          unfold f_Lines_lay
          rw [ev_grdN _ y8 (by decide), ev_grdN _ y8 (by decide), ev_b _ (show f_Lines_lay_L17 (nI y) jN 0 cnum = _ from l17), nI_clamp (show y < 2 ^ 31 by omega)]
        simp only [ev_grdN _ y8 (show 8 < 2 ^ 31 by decide), nI_clamp (show y < 2 ^ 31 by omega), ev_bnd]
        rw [ev_b _ e1, ev_b _ (m_keepLine y8 lnum old), ev_b _ (show f_BargeBasinModel_line_L86 (nI y) (nI t) (lmany y) jN 0 lnum = _ from m86), ev_b _ u1, un3_ap, uv]
        cases hu : u with
        | true =>
          rw [if_neg (show ¬ bI true = 0 by decide), ev_b _ (m_backLine y8 lnum _ old (fun f hf => (o1 f hf).2)), upd_back]
          exact bad 7 _ _ kw1 kh1 _ rfl rfl
        | false =>
          have ok : stC (rowB B y (wlL (upd lmany y (nI m)) zn y)) P := rowB_st hP (fun x hx g => by
            rw [← Bool.not_eq_true]
            intro tk
            have := u2.mpr ⟨x, hx, g, tk⟩
            rw [hu] at this; cases this)
          rw [if_pos (show bI false = 0 by decide), ev_b _ (m_walls w8 y8 kwl)]
          refine ⟨1, 0, upd csort y (nI t), upd csize y (nI m), zc, cwl', 0, 0, 0, 0, upd lsort y (nI t), upd lmany y (nI m), zn, _, kw1, kh1, _, rowB B y (wlL (upd lmany y (nI m)) zn y), ?_, rfl, Or.inr ⟨_, _, rfl⟩, rowB_bas h, ok, x1, rowB_rf hr0 hn.2.2.1, lgR_forget hl ok, rowB_ln hn hy h8 w8 (fun z hz => ⟨pk_un hz, pk_un hz, pk_un hz, pk_un hz⟩) o1 ey⟩
          show jb (f_Lines_lay (nI y) (nI t) (nI m) csort csize cnum) _ = _
          rw [ev_b _ lay, un3_ap, ev_b _ g1]; rfl
      · rw [if_neg a4, if_neg a4]; exact bad 6 _ _ kwho khe old rfl rfl
    · rw [if_neg a3, if_neg a3]; exact bad 2 _ _ kwho khe old rfl rfl
  · rw [ev_b _ l1, ev_b _ l2, if_neg (show ¬ (1 : Int32) = 0 by decide), if_pos rfl]
    exact bad 2 _ _ kwho khe old rfl rfl
