/-! set and line of both sides. -/
theorem m_keepL {y : Nat} {num : Nat → Int32} (hy : y < 8) : ∀ (d i n : Nat) (old : Nat → Int32), i + d = 8 → d < n → f_BargeBasinModel_keepLine_L2 (nI y) num n (nI i) old = some (fun j => if i ≤ j ∧ j < 8 then num (8 * y + j) else old j) := by
  intro d
  induction d with
  | zero =>
    intro i n old h hn
    obtain ⟨m, rfl⟩ : ∃ m, n = m + 1 := ⟨n - 1, by omega⟩
    have e : i = 8 := by omega
    subst e
    rw [f_BargeBasinModel_keepLine_L2, if_pos (show (8 : Int32) ≤ nI 8 by decide)]
    refine congrArg some (funext fun f => ?_)
    rw [if_neg (by omega)]
  | succ d ih =>
    intro i n old h hn
    obtain ⟨m, rfl⟩ : ∃ m, n = m + 1 := ⟨n - 1, by omega⟩
    have e : (8 : Int32) * nI y + nI i = nI (8 * y + i) := by rw [i8, nI_add]
    rw [f_BargeBasinModel_keepLine_L2, if_neg (show ¬ (8 : Int32) ≤ nI i from nI_ge (b := 8) (show i < 8 by omega) (by decide)), e, ev_grdN _ (show 8 * y + i < 64 by omega) (by decide), ev_bnd, ev_grdN _ (show i < 8 by omega) (by decide), ev_bnd, nI_1, nI_clamp (show i < 2 ^ 31 by omega), nI_clamp (show 8 * y + i < 2 ^ 31 by omega), ih (i + 1) m _ (by omega) (by omega)]
    refine congrArg some (funext fun f => ?_)
    by_cases a : f = i
    · subst a
      rw [if_neg (by omega), if_pos (by omega), pk_us]
    · rw [pk_un a]
      by_cases c : i + 1 ≤ f ∧ f < 8
      · rw [if_pos c, if_pos (by omega)]
      · rw [if_neg c, if_neg (by omega)]
theorem m_keepLine {y : Nat} (hy : y < 8) (num old : Nat → Int32) : f_BargeBasinModel_keepLine (nI y) num old = some (fun j => if 0 ≤ j ∧ j < 8 then num (8 * y + j) else old j) := by
  have e := m_keepL (num := num) hy 8 0 jN old (by omega) (by show 8 < 2000000; omega)
  unfold f_BargeBasinModel_keepLine
  rw [ev_b _ (show f_BargeBasinModel_keepLine_L2 (nI y) num jN 0 old = _ from e)]
theorem m_backL {y : Nat} {old : Nat → Int32} (hy : y < 8) : ∀ (d i n : Nat) (num : Nat → Int32), i + d = 8 → d < n → f_BargeBasinModel_backLine_L2 (nI y) old n (nI i) num = some (fun f => if f / 8 = y ∧ i ≤ f % 8 then old (f % 8) else num f) := by
  intro d
  induction d with
  | zero =>
    intro i n num h hn
    obtain ⟨m, rfl⟩ : ∃ m, n = m + 1 := ⟨n - 1, by omega⟩
    have e : i = 8 := by omega
    subst e
    rw [f_BargeBasinModel_backLine_L2, if_pos (show (8 : Int32) ≤ nI 8 by decide)]
    refine congrArg some (funext fun f => ?_)
    rw [if_neg (by omega)]
  | succ d ih =>
    intro i n num h hn
    obtain ⟨m, rfl⟩ : ∃ m, n = m + 1 := ⟨n - 1, by omega⟩
    have e : (8 : Int32) * nI y + nI i = nI (8 * y + i) := by rw [i8, nI_add]
    rw [f_BargeBasinModel_backLine_L2, if_neg (show ¬ (8 : Int32) ≤ nI i from nI_ge (b := 8) (show i < 8 by omega) (by decide)), e, ev_grdN _ (show i < 8 by omega) (by decide), ev_bnd, ev_grdN _ (show 8 * y + i < 64 by omega) (by decide), ev_bnd, nI_1, nI_clamp (show i < 2 ^ 31 by omega), nI_clamp (show 8 * y + i < 2 ^ 31 by omega), ih (i + 1) m _ (by omega) (by omega)]
    refine congrArg some (funext fun f => ?_)
    by_cases a : f = 8 * y + i
    · have e8 : f % 8 = i := by omega
      rw [if_neg (by omega), if_pos (by omega), e8, a, pk_us]
    · rw [pk_un a]
      by_cases c : f / 8 = y ∧ i + 1 ≤ f % 8
      · rw [if_pos c, if_pos (by omega)]
      · rw [if_neg c, if_neg (by omega)]
/-- keeping a row and laying it back undoes what was done in the row -/
theorem m_backLine {y : Nat} (hy : y < 8) (num num' old : Nat → Int32) (e : ∀ f, f / 8 ≠ y → num' f = num f) : f_BargeBasinModel_backLine (nI y) num' (fun j => if 0 ≤ j ∧ j < 8 then num (8 * y + j) else old j) = some num := by
  have e1 := m_backL (old := fun j => if 0 ≤ j ∧ j < 8 then num (8 * y + j) else old j) hy 8 0 jN num' (by omega) (by show 8 < 2000000; omega)
  unfold f_BargeBasinModel_backLine
  rw [ev_b _ (show f_BargeBasinModel_backLine_L2 (nI y) _ jN 0 num' = _ from e1)]
  refine congrArg some (funext fun f => ?_)
  by_cases c : f / 8 = y
  · rw [if_pos ⟨c, Nat.zero_le _⟩, if_pos ⟨Nat.zero_le _, Nat.mod_lt _ (by decide)⟩, show 8 * y + f % 8 = f by omega]
  · rw [if_neg (fun q => c q.1), e f c]
theorem s_isTaken {B : Bas} {P : Nat → Nat} {x y : Nat} {kt : Int64} (h : basOk B) (ht : chT B P kt) (hx : x < 8) (hy : y < 8) : f_Chart_isTaken (nI x) (nI y) (nI (bw B)) kt = some (bI (decide (x < bw B) && tkA B P (x + 8 * y))) := by
  have w8 := h.2.1
  have e : (8 : Int32) * nI y + nI x = nI (x + 8 * y) := by rw [i8, nI_add, Nat.add_comm]
  unfold f_Chart_isTaken
  rw [e]
  simp only [cmp0, and0, nI_leE (show bw B < 2 ^ 31 by omega) (show x < 2 ^ 31 by omega)]
  have a : anyF (fun f => tb (jlushr kt (nI (x + 8 * y))) f && tb 1 f) = tkA B P (x + 8 * y) := by
    rw [← ht _ (show x + 8 * y < 64 by omega), Bool.eq_iff_iff, anyF_t]
    constructor
    · rintro ⟨f, hf, q⟩
      rw [Bool.and_eq_true, tb_shr (by omega), tb_1, decide_eq_true_eq] at q
      rw [q.2, Nat.add_zero] at q
      exact q.1
    · intro q
      exact ⟨0, by decide, by rw [tb_shr (by omega), tb_1, Nat.add_zero, q]; rfl⟩
  rw [a]
  by_cases c : bw B ≤ x
  · rw [if_pos c, decide_eq_false (by omega)]; rfl
  · rw [if_neg c, decide_eq_true (by omega), Bool.true_and]
    cases tkA B P (x + 8 * y) <;> rfl
/-- no wall lies under a barge -/
theorem tk_nw {B : Bas} {P : Nat → Nat} {f : Nat} (hP : stC B P) (hf : f < 64) (t : tkA B P f = true) : bwl B f = false := by
  obtain ⟨b, hb, q⟩ := List.any_eq_true.mp t
  exact hP.1.2.2 b f (List.mem_range.mp hb) hf q
theorem cutE {csort lsort : Nat → Int32} {y t : Nat} (hy : y < 8) (a : csort y = nI t) (b : lsort y = nI t) (v : Int32) : ∃ r, f_Lines_cut (nI y) v csort = some r ∧ f_BargeBasinModel_cutTo (lsort y) v = some r := by
  unfold f_Lines_cut f_BargeBasinModel_cutTo
  rw [ev_grdN _ hy (by decide), nI_clamp (show y < 2 ^ 31 by omega), a, b, ev_bnd]
  by_cases c0 : nI t = 0
  · rw [if_pos c0]; exact ⟨_, rfl, rfl⟩
  · rw [if_neg c0]
    by_cases c1 : nI t = 1
    · rw [if_pos c1]; exact ⟨_, rfl, rfl⟩
    · rw [if_neg c1]; exact ⟨_, rfl, rfl⟩
theorem eq_set {B : Bas} {P : Nat → Nat} {cw chh cn : Int32} {cwl ct : Int64} {ck cp cl cg ca cwd chg : Nat → Int32} {cs : Nat → Int64} {khas kw kh kn : Int32} {kwl kk kat ks ky kg : Nat → Int32} {lf ld lu um rm : Int32} {lm ub uf ut rb rf rt : Nat → Int32} {csort csize cnum lsort lmany lnum : Nat → Int32} (h : basOk B) (hP : stC B P) (hc : chX B P cw chh cn cwl ct ck cp cl cg ca cwd chg cs) (hr : rfX B P khas kw kh kn kwl kk kat ks ky kg) (hl : lgR B P lf ld lu lm um rm ub uf ut rb rf rt) (hn : lnR B csort csize cnum lsort lmany lnum) (v1 v2 v3 st st2 th : Int32) (kwho khe old : Nat → Int32) :
    ∃ (ans st' : Int32) (cnum' : Nat → Int32) (cwl' : Int64) (ld' lu' um' rm' : Int32) (lnum' kwl' kwho' khe' old' : Nat → Int32) (B' : Bas), f_BargeBasin_set v1 v2 v3 st csort csize cnum cw chh cwl ct ld lu = some (ans, st', cnum', cwl', ld', lu') ∧
      f_BargeBasinModel_set v1 v2 v3 st2 th khas kw kh kn um rm lsort lmany lnum kwl kk kat ks ky kwho khe old = some (ans, st', 0, um', rm', lnum', kwl', kwho', khe', old') ∧
      (B' = B ∨ ∃ y g, B' = rowB B y g) ∧ basOk B' ∧ stC B' P ∧ chX B' P cw chh cn cwl' ct ck cp cl cg ca cwd chg cs ∧ rfX B' P khas kw kh kn kwl' kk kat ks ky kg ∧ lgR B' P lf ld' lu' lm um' rm' ub uf ut rb rf rt ∧ lnR B' csort csize cnum' lsort lmany lnum' := by
  have h8 := h.2.2.2.1
  have w8 := h.2.1
  have hc0 := hc
  have hr0 := hr
  obtain ⟨c1, c2, c3, c4, c5, c6, c7, c8, c9⟩ := hc
  obtain ⟨r1, r2, r3, r4, r5, r6, r7, r8⟩ := hr
  subst c1; subst c2; subst r1; subst r2; subst r3; subst r4
  unfold f_BargeBasin_set f_BargeBasinModel_set
  rcases numF (v1 := v1) (v2 := v2) h hn with ⟨y, i, t, m, hy, hi, m8, t3, e1, e2, a1, a2, a3, a4, a5, f1, f2⟩ | ⟨r, r0, r1, f1, f2⟩
  · have y8 : y < 8 := by omega
    have i8' : i < 8 := by omega
    rw [ev_b _ f1, ev_b _ f2, if_pos rfl, if_pos (show (0 : Int32) ≤ 0 by decide), e1, e2]
    obtain ⟨r, g1, g2⟩ := cutE y8 a1 a2 v3
    have e8 : (8 : Int32) * nI y + nI i = nI (8 * y + i) := by rw [i8, nI_add]
    have o1 : ∀ f, f / 8 ≠ y → upd cnum (8 * y + i) r f = cnum f ∧ upd lnum (8 * y + i) r f = lnum f := fun f hf => by
      have : f ≠ 8 * y + i := by omega
      rw [pk_un this, pk_un this]; exact ⟨rfl, rfl⟩
    have ey : lnY csort csize (upd cnum (8 * y + i) r) lsort lmany (upd lnum (8 * y + i) r) y := Or.inr ⟨t, m, t3, m8, a1, a2, a3, a4, fun j hj => by
      by_cases z : j = i
      · rw [z, pk_us, pk_us]
      · rw [pk_un (show 8 * y + j ≠ 8 * y + i by omega), pk_un (show 8 * y + j ≠ 8 * y + i by omega)]; exact a5 j hj⟩
    obtain ⟨cwl', l1, x1⟩ := s_linesChanged (st := st) (ld := ld) (lu := lu) h y8 hc0 ey
    obtain ⟨u, kw1, kh1, u1, u2⟩ := m_isUnder (lm := lmany) (ln := upd lnum (8 * y + i) r) h hP.1.1 r6 r7 y8 kwho khe
    have nn : ¬ lmany y < 0 := by rw [a4]; exact nI_nn (by omega)
    have wi : wlL lmany (upd lnum (8 * y + i) r) y i = decide (¬ r = 0) := by
      unfold wlL
      rw [if_neg nn, a4, if_neg (show ¬ nI m ≤ nI i from nI_ge hi (by omega)), pk_us]
    have wo : ∀ x, x ≠ i → wlL lmany (upd lnum (8 * y + i) r) y x = wlL lmany lnum y x := fun x hx => by
      unfold wlL
      rw [pk_un (show 8 * y + x ≠ 8 * y + i by omega)]
    have ue : u = (decide (¬ r = 0) && (decide (i < bw B) && tkA B P (i + 8 * y))) := by
      rw [Bool.eq_iff_iff, u2, Bool.and_eq_true, Bool.and_eq_true, decide_eq_true_eq, decide_eq_true_eq]
      constructor
      · rintro ⟨x, q1, q2, q3⟩
        by_cases z : x = i
        · rw [z, wi, decide_eq_true_eq] at q2
          rw [z] at q1 q3
          exact ⟨q2, q1, q3⟩
        · rw [wo x z, ← hn.2.1 y x hy q1, tk_nw hP (by omega) q3] at q2; cases q2
      · rintro ⟨q1, q2, q3⟩
        exact ⟨i, q2, by rw [wi, decide_eq_true q1], q3⟩
    have wr : f_Lines_write (nI y) (nI i) r cnum = some (upd cnum (8 * y + i) r) := by
      unfold f_Lines_write
      rw [e8, ev_grdN _ (show 8 * y + i < 64 by omega) (by decide), nI_clamp (by omega)]
    have J : f_BargeBasin_set_J55 (nI y) (nI i) r st csort csize cnum (nI (bw B)) cwl ld lu = some (1, 0, upd cnum (8 * y + i) r, cwl', 0, 0) := by
      unfold f_BargeBasin_set_J55
      rw [ev_b _ wr, ev_b _ l1]; rfl
    have ok : u = false → stC (rowB B y (wlL lmany (upd lnum (8 * y + i) r) y)) P := fun uf => rowB_st hP (fun x hx g => by
      rw [← Bool.not_eq_true]
      intro tk
      have := u2.mpr ⟨x, hx, g, tk⟩
      rw [uf] at this; cases this)
    rw [ev_b _ g1, ev_b _ (m_keepLine y8 lnum old), ev_grdN _ y8 (by decide), nI_clamp (show y < 2 ^ 31 by omega), ev_b _ g2, e8, ev_grdN _ (show 8 * y + i < 64 by omega) (by decide), nI_clamp (show 8 * y + i < 2 ^ 31 by omega), ev_b _ u1, un3_ap, J, ev_b _ (s_isTaken h c5 i8' y8)]
    have good : u = false → ∃ (ans st' : Int32) (cnum' : Nat → Int32) (cwl'' : Int64) (ld' lu' um' rm' : Int32) (lnum' kwl' kwho' khe' old' : Nat → Int32) (B' : Bas), some ((1 : Int32), (0 : Int32), upd cnum (8 * y + i) r, cwl', (0 : Int32), (0 : Int32)) = some (ans, st', cnum', cwl'', ld', lu') ∧
        (some ((1 : Int32), (0 : Int32), (0 : Int32), (0 : Int32), (0 : Int32), upd lnum (8 * y + i) r, (fun f => if f / 8 = y ∧ 0 ≤ f % 8 ∧ f % 8 < bw B then bI (wlL lmany (upd lnum (8 * y + i) r) y (f % 8)) else kwl f), kw1, kh1, (fun j => if 0 ≤ j ∧ j < 8 then lnum (8 * y + j) else old j)) : Option _) = some (ans, st', 0, um', rm', lnum', kwl', kwho', khe', old') ∧
        (B' = B ∨ ∃ y g, B' = rowB B y g) ∧ basOk B' ∧ stC B' P ∧ chX B' P (nI (bw B)) (nI (bh B)) cn cwl'' ct ck cp cl cg ca cwd chg cs ∧ rfX B' P 1 (nI (bw B)) (nI (bh B)) (nI (bn B)) kwl' kk kat ks ky kg ∧ lgR B' P lf ld' lu' lm um' rm' ub uf ut rb rf rt ∧ lnR B' csort csize cnum' lsort lmany lnum' := by
      intro uf
      exact ⟨1, 0, _, cwl', 0, 0, 0, 0, _, _, kw1, kh1, _, rowB B y (wlL lmany (upd lnum (8 * y + i) r) y), rfl, rfl, Or.inr ⟨_, _, rfl⟩, rowB_bas h, ok uf, x1, rowB_rf hr0 hn.2.2.1, lgR_forget hl (ok uf), rowB_ln hn hy h8 w8 (fun z hz => ⟨rfl, rfl, rfl, rfl⟩) o1 ey⟩
    by_cases z : r = 0
    · have uf : u = false := by rw [ue, decide_eq_false (fun q => q z), Bool.false_and]
      rw [if_pos z, uf, if_pos (show bI false = 0 by decide), ev_b _ (m_walls w8 y8 kwl)]
      exact good uf
    · rw [if_neg z]
      cases tk : (decide (i < bw B) && tkA B P (i + 8 * y)) with
      | false =>
        have uf : u = false := by rw [ue, tk, Bool.and_false]
        rw [if_pos (show bI false = 0 by decide), uf, if_pos (show bI false = 0 by decide), ev_b _ (m_walls w8 y8 kwl)]
        exact good uf
      | true =>
        have ut' : u = true := by rw [ue, tk, decide_eq_true z]; rfl
        rw [if_neg (show ¬ bI true = 0 by decide), ut', if_neg (show ¬ bI true = 0 by decide), ev_b _ (m_backLine y8 lnum _ old (fun f hf => (o1 f hf).2))]
        exact ⟨0, 7, cnum, cwl, ld, lu, um, rm, lnum, kwl, kw1, kh1, _, B, rfl, rfl, Or.inl rfl, h, hP, hc0, hr0, hl, hn⟩
  · have e1 : (nI r = 0) = (r = 0) := nI_eqL (j := 0) (by omega) (by decide)
    have e2 : (nI r ≤ 0) = (r ≤ 0) := nI_leE (b := 0) (by omega) (by decide)
    rw [ev_b _ f1, ev_b _ f2]
    simp only [e1, e2]
    rw [if_neg (by omega), if_neg (by omega)]
    exact ⟨0, nI r, cnum, cwl, ld, lu, um, rm, lnum, kwl, kwho, khe, old, B, rfl, rfl, Or.inl rfl, h, hP, hc0, hr0, hl, hn⟩
