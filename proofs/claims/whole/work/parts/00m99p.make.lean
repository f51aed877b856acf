/-! make of both sides. -/
theorem rfB_n {B : Bas} {kk ks ky : Nat → Int32} (h : rfB B kk ks ky) (x y z : Int32) : rfB B (upd kk (bn B) x) (upd ks (bn B) y) (upd ky (bn B) z) := by
  intro b hb
  rw [pk_un (by omega), pk_un (by omega), pk_un (by omega)]
  exact h b hb
/-- up to 20 tries on both sides -/
theorem tries {B : Bas} {P : Nat → Nat} {cwl ct : Int64} {ck cp cl cg ca cwd chg : Nat → Int32} {cs : Nat → Int64} {kwl kwho : Nat → Int32} {v2 v4 : Int32} (h : basOk B) (hP : stC B P) (hn : bn B < 12) (hc : chX B P (nI (bw B)) (nI (bh B)) (nI (bn B)) cwl ct ck cp cl cg ca cwd chg cs) (hwl : rfW B kwl) (ho : rfO B P kwho) :
    ∀ (r t n m : Nat) (sd : Int32) (kk ks ky : Nat → Int32), t + r = 20 → r + 1 < n → r < m → rfB B kk ks ky →
      (∃ sd' kk' ks' ky', f_BargeBasin_make_L64 v2 v4 (nI (bw B)) (nI (bh B)) cwl n 0 (nI t) (nI (bn B)) ct ck cp cl cg ca cwd chg cs sd = some (nI (bn B), ct, ck, cp, cl, cg, ca, cwd, chg, cs, sd') ∧ f_BargeBasinModel_draws_L11 (nI (bn B)) (nI (bw B)) (nI (bh B)) kwl kwho m (nI t) sd kk ks ky = some (.inr (sd', kk', ks', ky')) ∧ rfB B kk' ks' ky') ∨
      (∃ k s yy x y sd' ct' ck' cp' cl' cg' ca' cwd' chg' cs' kk' ks' ky', bgOk k s yy ∧ fitA B P (bW k s yy) (bH k s yy) x y = true ∧ f_BargeBasin_make_L64 v2 v4 (nI (bw B)) (nI (bh B)) cwl n 0 (nI t) (nI (bn B)) ct ck cp cl cg ca cwd chg cs sd = some (nI (bn B + 1), ct', ck', cp', cl', cg', ca', cwd', chg', cs', sd') ∧ chX (addB B k s yy (x + 8 * y)) (updN P (bn B) (x + 8 * y)) (nI (bw B)) (nI (bh B)) (nI (bn B + 1)) cwl ct' ck' cp' cl' cg' ca' cwd' chg' cs' ∧
        f_BargeBasinModel_draws_L11 (nI (bn B)) (nI (bw B)) (nI (bh B)) kwl kwho m (nI t) sd kk ks ky = some (.inl (nI x, nI y, sd', upd kk' (bn B) (nI k), upd ks' (bn B) (nI s), upd ky' (bn B) (nI yy))) ∧ rfB B kk' ks' ky') := by
  have w8 := h.2.1
  have h8 := h.2.2.2.1
  intro r
  induction r with
  | zero =>
    intro t n m sd kk ks ky h1 h2 h3 hr
    obtain ⟨n, rfl⟩ : ∃ z, n = z + 1 := ⟨n - 1, by omega⟩
    obtain ⟨m, rfl⟩ : ∃ z, m = z + 1 := ⟨m - 1, by omega⟩
    have e : t = 20 := by omega
    subst e
    refine Or.inl ⟨sd, kk, ks, ky, ?_, ?_, hr⟩
    · rw [f_BargeBasin_make_L64, if_pos (show (20 : Int32) ≤ nI 20 by decide)]
    · rw [f_BargeBasinModel_draws_L11, if_pos (show (20 : Int32) ≤ nI 20 by decide)]
  | succ r ih =>
    intro t n m sd kk ks ky h1 h2 h3 hr
    obtain ⟨n, rfl⟩ : ∃ z, n = z + 1 := ⟨n - 1, by omega⟩
    obtain ⟨m, rfl⟩ : ∃ z, m = z + 1 := ⟨m - 1, by omega⟩
    obtain ⟨k, s, yy, x, y, sd', bg, hx, hy, e1, e2⟩ := one_try h.1 w8 h.2.2.1 h8 sd
    obtain ⟨g1, g2, g3, g4, g5, g6, g7⟩ := bgOk_wh bg
    have c4 := hc.2.2.2.1
    have c5 := hc.2.2.2.2.1
    have sf := s_fits h c4 c5 bg hx hy
    have mw := m_wide (b := bn B) (kk := upd kk (bn B) (nI k)) (ks := upd ks (bn B) (nI s)) (ky := upd ky (bn B) (nI yy)) hn pk_us pk_us pk_us g1 g2
    have mt := m_tall (b := bn B) (kk := upd kk (bn B) (nI k)) (ks := upd ks (bn B) (nI s)) (ky := upd ky (bn B) (nI yy)) hn pk_us pk_us pk_us g1 g2
    obtain ⟨q, q1, q2, q3⟩ := m_againstAny h hwl ho mw mt g4 g6 hx hy
    have qz : (nI q ≤ 0) = (q ≤ 0) := nI_leE (b := 0) (by omega) (by decide)
    have e2' := e2 (bn B) t m kwl kwho kk ks ky hn (by omega)
    rw [ev_b _ q1] at e2'
    have e1' := e1 (nI (bn B)) cwl ct ck cp cl cg ca cwd chg cs
    rw [ev_b _ sf] at e1'
    rw [f_BargeBasin_make_L64, if_neg (show ¬ (20 : Int32) ≤ nI t from nI_ge (b := 20) (by omega) (by decide)), if_pos rfl, e2', e1']
    cases ef : fitA B P (bW k s yy) (bH k s yy) x y with
    | false =>
      have qn : ¬ q = 0 := fun z => by rw [q3.mp z] at ef; cases ef
      rw [if_pos (show bI false = 0 by decide), if_neg (by rw [qz]; omega), ev_b _ rfl, un12_ap, ev_bnd, nI_1]
      exact ih (t + 1) n m sd' _ _ _ (by omega) (by omega) (by omega) (rfB_n hr _ _ _)
    | true =>
      have ef' := ef
      unfold fitA at ef'
      rw [Bool.and_eq_true, decide_eq_true_eq] at ef'
      have px : (x + 8 * y) % 8 = x := by omega
      obtain ⟨ct', ck', cp', cl', cg', ca', cwd', chg', cs', e4, x4⟩ := s_add (p := x + 8 * y) h hc bg hn (by omega) (by rw [px]; have := ef'.1.1; omega)
      have e8 : (8 : Int32) * nI y + nI x = nI (x + 8 * y) := by rw [i8, nI_add, Nat.add_comm]
      refine Or.inr ⟨k, s, yy, x, y, sd', ct', ck', cp', cl', cg', ca', cwd', chg', cs', kk, ks, ky, bg, ef, ?_, x4, ?_, hr⟩
      · obtain ⟨n, rfl⟩ : ∃ z, n = z + 1 := ⟨n - 1, by omega⟩
        rw [if_neg (show ¬ bI true = 0 by decide), e8, ev_b _ e4, un10_ap, ev_b _ rfl, un12_ap, ev_bnd, nI_1, f_BargeBasin_make_L64]
        by_cases l : (20 : Int32) ≤ nI (t + 1)
        · rw [if_pos l]
        · rw [if_neg l, if_neg (show ¬ (1 : Int32) = 0 by decide)]
      · rw [if_pos (by rw [qz, q3.mpr ef]; exact Nat.le_refl 0)]
/-- the basin without barges -/
def noB (B : Bas) : Bas := (bw B, bh B, 0, bK B, bS B, bY B, bG B, bwl B)
theorem noB_bas {B : Bas} (h : basOk B) : basOk (noB B) := ⟨h.1, h.2.1, h.2.2.1, h.2.2.2.1, Nat.zero_le _, fun b hb => absurd hb (Nat.not_lt_zero b), fun b hb => absurd hb (Nat.not_lt_zero b)⟩
theorem noB_st {B : Bas} : stC (noB B) (fun _ => 0) := ⟨⟨fun b hb => absurd hb (Nat.not_lt_zero b), fun b c f hb => absurd hb (Nat.not_lt_zero b), fun b f hb => absurd hb (Nat.not_lt_zero b)⟩, fun _ _ => rfl, fun b hb => absurd hb (Nat.not_lt_zero b)⟩
/-- the same basin but for its barges -/
def samW (B C : Bas) : Prop := bw C = bw B ∧ bh C = bh B ∧ bwl C = bwl B
theorem make_L {B0 : Bas} {many : Nat} {cwl : Int64} {khas : Int32} {kwl : Nat → Int32} (hm : many ≤ 12) :
    ∀ (r i n m : Nat) (B : Bas) (P : Nat → Nat) (ct : Int64) (ck cp cl cg ca cwd chg : Nat → Int32) (cs : Nat → Int64) (kk kat ks ky kg kwho khe : Nat → Int32) (sd : Int32), i + r = many → r < n → r < m → bn B ≤ i → samW B0 B → basOk B → stC B P → chX B P (nI (bw B0)) (nI (bh B0)) (nI (bn B)) cwl ct ck cp cl cg ca cwd chg cs → rfX B P khas (nI (bw B0)) (nI (bh B0)) (nI (bn B)) kwl kk kat ks ky kg →
      ∃ (B' : Bas) (Q : Nat → Nat) (ct' : Int64) (ck' cp' cl' cg' ca' cwd' chg' : Nat → Int32) (cs' : Nat → Int64) (kk' kat' ks' ky' kg' kwho' khe' : Nat → Int32) (sd' : Int32), f_BargeBasin_make_L52 (nI many) (nI (bw B0)) (nI (bh B0)) cwl n (nI i) (nI (bn B)) ct ck cp cl cg ca cwd chg cs sd = some (nI (bn B'), ct', ck', cp', cl', cg', ca', cwd', chg', cs', sd') ∧
        f_BargeBasinModel_make_L55 (nI many) (nI (bw B0)) (nI (bh B0)) kwl m (nI i) (nI (bn B)) sd kk kat ks ky kg kwho khe = some (nI (bn B'), sd', kk', kat', ks', ky', kg', kwho', khe') ∧ samW B0 B' ∧ basOk B' ∧ stC B' Q ∧ chX B' Q (nI (bw B0)) (nI (bh B0)) (nI (bn B')) cwl ct' ck' cp' cl' cg' ca' cwd' chg' cs' ∧ rfX B' Q khas (nI (bw B0)) (nI (bh B0)) (nI (bn B')) kwl kk' kat' ks' ky' kg' := by
  intro r
  induction r with
  | zero =>
    intro i n m B P ct ck cp cl cg ca cwd chg cs kk kat ks ky kg kwho khe sd h1 h2 h3 hb hs h hP hc hr
    obtain ⟨n, rfl⟩ : ∃ z, n = z + 1 := ⟨n - 1, by omega⟩
    obtain ⟨m, rfl⟩ : ∃ z, m = z + 1 := ⟨m - 1, by omega⟩
    have e : i = many := by omega
    subst e
    exact ⟨B, P, ct, ck, cp, cl, cg, ca, cwd, chg, cs, kk, kat, ks, ky, kg, kwho, khe, sd, by rw [f_BargeBasin_make_L52, if_pos (nI_le (Nat.le_refl _) (by omega))], by rw [f_BargeBasinModel_make_L55, if_pos (nI_le (Nat.le_refl _) (by omega))], hs, h, hP, hc, hr⟩
  | succ r ih =>
    intro i n m B P ct ck cp cl cg ca cwd chg cs kk kat ks ky kg kwho khe sd h1 h2 h3 hb hs h hP hc hr
    obtain ⟨n, rfl⟩ : ∃ z, n = z + 1 := ⟨n - 1, by omega⟩
    obtain ⟨m, rfl⟩ : ∃ z, m = z + 1 := ⟨m - 1, by omega⟩
    have n12 : bn B < 12 := by omega
    obtain ⟨s1, s2, s3⟩ := hs
    rw [← s1, ← s2] at hc hr ⊢
    obtain ⟨r1, r2, r3, r4, r5, r6, r7, r8⟩ := hr
    obtain ⟨kw1, kh1, l1, o1, p1⟩ := m_layAllB h hP.1.1 r6 r7 kwho khe
    rw [f_BargeBasin_make_L52, if_neg (nI_ge (show i < many by omega) (by omega)), f_BargeBasinModel_make_L55, if_neg (nI_ge (show i < many by omega) (by omega))]
    rcases tries (v2 := nI many) (v4 := nI i) h hP n12 hc r5 o1 20 0 jN jN sd kk ks ky (by omega) (by show 20 + 1 < 2000000; omega) (by show 20 < 2000000; omega) r6 with ⟨sd', kk', ks', ky', t1, t2, t3⟩ | ⟨k, s, yy, x, y, sd', ct', ck', cp', cl', cg', ca', cwd', chg', cs', kk', ks', ky', bg, ft, t1, t2, t3, t4⟩
    · have dr : f_BargeBasinModel_draws (nI (bw B)) (nI (bh B)) (nI (bn B)) sd kwl kk kat ks ky kg kwho khe = some (nI (bn B), sd', kk', kat, ks', ky', kg, kw1, kh1) := by
        unfold f_BargeBasinModel_draws
        rw [ev_b _ l1, un2_ap, ev_b (x := f_BargeBasinModel_draws_L11 (nI (bn B)) (nI (bw B)) (nI (bh B)) kwl kw1 jN 0 sd kk ks ky) _ t2]
        rfl
      rw [ev_b (x := f_BargeBasin_make_L64 (nI many) (nI i) (nI (bw B)) (nI (bh B)) cwl jN 0 0 (nI (bn B)) ct ck cp cl cg ca cwd chg cs sd) _ t1, un11_ap, ev_bnd, nI_1, ev_b _ dr, un9_ap, ev_bnd, s1, s2]
      rw [s1, s2] at hc
      rw [s1] at r2
      rw [s2] at r3
      exact ih (i + 1) n m B P ct ck cp cl cg ca cwd chg cs kk' kat ks' ky' kg kw1 kh1 sd' (by omega) (by omega) (by omega) (by omega) ⟨s1, s2, s3⟩ h hP hc ⟨r1, by rw [s1], by rw [s2], rfl, r5, t3, r7, r8⟩
    · have w8 := h.2.1
      have h8 := h.2.2.2.1
      have ft' := ft
      unfold fitA at ft'
      rw [Bool.and_eq_true, decide_eq_true_eq] at ft'
      obtain ⟨g1, g2, g3, g4, g5, g6, g7⟩ := bgOk_wh bg
      have p64 : x + 8 * y < 64 := by omega
      have hB' := add_bas h bg n12 p64
      have hQ := add_st h hP bg ft
      have rX := rfX_add (k := k) (s := s) (y := yy) (p := x + 8 * y) (show rfX B P khas (nI (bw B)) (nI (bh B)) (nI (bn B)) kwl kk' kat ks' ky' kg from ⟨r1, rfl, rfl, rfl, r5, t4, r7, r8⟩)
      have e8 : nI x + (8 : Int32) * nI y = nI (x + 8 * y) := by rw [i8, nI_add]
      have dr : f_BargeBasinModel_draws (nI (bw B)) (nI (bh B)) (nI (bn B)) sd kwl kk kat ks ky kg kwho khe = some (nI (bn B + 1), sd', upd kk' (bn B) (nI k), upd kat (bn B) (nI (x + 8 * y)), upd ks' (bn B) (nI s), upd ky' (bn B) (nI yy), upd kg (bn B) (nI (x + 8 * y)), kw1, kh1) := by
        unfold f_BargeBasinModel_draws
        rw [ev_b _ l1, un2_ap, ev_b (x := f_BargeBasinModel_draws_L11 (nI (bn B)) (nI (bw B)) (nI (bh B)) kwl kw1 jN 0 sd kk ks ky) _ t3]
        rw [jsel_l, un6_ap]
        simp only [ev_bnd, ev_grdN _ n12 (show 12 < 2 ^ 31 by decide), cl_nI n12, pk_us, nI_1, e8]
      rw [ev_b (x := f_BargeBasin_make_L64 (nI many) (nI i) (nI (bw B)) (nI (bh B)) cwl jN 0 0 (nI (bn B)) ct ck cp cl cg ca cwd chg cs sd) _ t1, un11_ap, ev_bnd, nI_1, ev_b _ dr, un9_ap, ev_bnd, s1, s2]
      rw [s1, s2] at t2 rX
      exact ih (i + 1) n m (addB B k s yy (x + 8 * y)) (updN P (bn B) (x + 8 * y)) ct' ck' cp' cl' cg' ca' cwd' chg' cs' _ _ _ _ _ kw1 kh1 sd' (by omega) (by omega) (by omega) (by show bn B + 1 ≤ i + 1; omega) ⟨s1, s2, s3⟩ hB' hQ t2 rX
theorem eq_make {B : Bas} {P : Nat → Nat} {cw chh cn : Int32} {cwl ct : Int64} {ck cp cl cg ca cwd chg : Nat → Int32} {cs : Nat → Int64} {khas kw kh kn : Int32} {kwl kk kat ks ky kg : Nat → Int32} {lf ld lu um rm : Int32} {lm ub uf ut rb rf rt : Nat → Int32} (h : basOk B) (hP : stC B P) (hc : chX B P cw chh cn cwl ct ck cp cl cg ca cwd chg cs) (hr : rfX B P khas kw kh kn kwl kk kat ks ky kg) (hl : lgR B P lf ld lu lm um rm ub uf ut rb rf rt) (v1 v2 st st2 th sd : Int32) (kwho khe : Nat → Int32) :
    ∃ (ans st' cn' : Int32) (ct' : Int64) (ck' cp' cl' cg' ca' cwd' chg' : Nat → Int32) (cs' : Nat → Int64) (ld' lu' kn' um' rm' sd' : Int32) (kk' kat' ks' ky' kg' kwho' khe' : Nat → Int32) (B' : Bas) (Q : Nat → Nat),
      f_BargeBasin_make v1 v2 st cw chh cn cwl ct ck cp cl cg ca cwd chg cs ld lu = some (ans, st', cn', ct', ck', cp', cl', cg', ca', cwd', chg', cs', ld', lu') ∧
      f_BargeBasinModel_make v1 v2 st2 th khas kw kh kn um rm sd kwl kk kat ks ky kg kwho khe = some (ans, st', 0, kn', um', rm', sd', kk', kat', ks', ky', kg', kwho', khe') ∧
      samW B B' ∧ basOk B' ∧ stC B' Q ∧ chX B' Q cw chh cn' cwl ct' ck' cp' cl' cg' ca' cwd' chg' cs' ∧ rfX B' Q khas kw kh kn' kwl kk' kat' ks' ky' kg' ∧ lgR B' Q lf ld' lu' lm um' rm' ub uf ut rb rf rt := by
  have hc0 := hc
  have hr0 := hr
  obtain ⟨c1, c2, c3, c4, c5, c6, c7, c8, c9⟩ := hc
  obtain ⟨r1, r2, r3, r4, r5, r6, r7, r8⟩ := hr
  subst c1; subst c2; subst c3; subst r1; subst r2; subst r3; subst r4
  unfold f_BargeBasin_make f_BargeBasinModel_make
  rw [ev_b _ (noBas h), if_pos rfl, if_neg (show ¬ (1 : Int32) = 0 by decide)]
  have bad : ∀ (X : Option (Int32 × (Int32) × (Int32) × (Int64) × (Nat → Int32) × (Nat → Int32) × (Nat → Int32) × (Nat → Int32) × (Nat → Int32) × (Nat → Int32) × (Nat → Int32) × (Nat → Int64) × (Int32) × (Int32))) (Y : Option (Int32 × (Int32) × (Int32) × (Int32) × (Int32) × (Int32) × (Int32) × (Nat → Int32) × (Nat → Int32) × (Nat → Int32) × (Nat → Int32) × (Nat → Int32) × (Nat → Int32) × (Nat → Int32))), X = some (-1, 2, nI (bn B), ct, ck, cp, cl, cg, ca, cwd, chg, cs, ld, lu) → Y = some (-1, 2, 0, nI (bn B), um, rm, sd, kk, kat, ks, ky, kg, kwho, khe) →
      ∃ (ans st' cn' : Int32) (ct' : Int64) (ck' cp' cl' cg' ca' cwd' chg' : Nat → Int32) (cs' : Nat → Int64) (ld' lu' kn' um' rm' sd' : Int32) (kk' kat' ks' ky' kg' kwho' khe' : Nat → Int32) (B' : Bas) (Q : Nat → Nat), X = some (ans, st', cn', ct', ck', cp', cl', cg', ca', cwd', chg', cs', ld', lu') ∧ Y = some (ans, st', 0, kn', um', rm', sd', kk', kat', ks', ky', kg', kwho', khe') ∧
      samW B B' ∧ basOk B' ∧ stC B' Q ∧ chX B' Q (nI (bw B)) (nI (bh B)) cn' cwl ct' ck' cp' cl' cg' ca' cwd' chg' cs' ∧ rfX B' Q 1 (nI (bw B)) (nI (bh B)) kn' kwl kk' kat' ks' ky' kg' ∧ lgR B' Q lf ld' lu' lm um' rm' ub uf ut rb rf rt := by
    intro X Y hX hY
    exact ⟨_, _, _, _, _, _, _, _, _, _, _, _, _, _, _, _, _, _, _, _, _, _, _, _, _, B, P, hX, hY, ⟨rfl, rfl, rfl⟩, h, hP, hc0, hr0, hl⟩
  by_cases q1 : v1 < 0
  · rw [if_pos q1, if_pos q1]; exact bad _ _ rfl rfl
  · rw [if_neg q1, if_neg q1]
    by_cases q2 : v2 < 0
    · rw [if_pos q2, if_pos q2]; exact bad _ _ rfl rfl
    · rw [if_neg q2, if_neg q2]
      by_cases q3 : v2 ≤ 12
      · rw [if_pos q3, if_pos q3]
        obtain ⟨many, hm, e⟩ : ∃ m, m ≤ 12 ∧ v2 = nI m := by
          have t0 : (0 : Int32).toInt = 0 := rfl
          have t12 : (12 : Int32).toInt = 12 := by decide
          rw [Int32.lt_iff_toInt_lt, t0] at q2
          rw [Int32.le_iff_toInt_le, t12] at q3
          refine ⟨v2.toInt.toNat, by omega, ?_⟩
          apply Int32.toInt_inj.mp
          rw [nI_toInt (by omega)]
          omega
        subst e
        obtain ⟨B', Q, ct', ck', cp', cl', cg', ca', cwd', chg', cs', kk', kat', ks', ky', kg', kwho', khe', sd', x1, x2, x3, x4, x5, x6, x7⟩ := make_L (B0 := B) (khas := 1) (kwl := kwl) (cwl := cwl) hm many 0 jN jN (noB B) (fun _ => 0) 0 ck cp cl cg ca cwd chg cs kk kat ks ky kg kwho khe v1 (by omega) (by show many < 2000000; omega) (by show many < 2000000; omega) (Nat.le_refl 0) ⟨rfl, rfl, rfl⟩ (noB_bas h) noB_st ⟨rfl, rfl, rfl, c4, fun f _ => by rw [tb_0]; rfl, fun b hb => absurd hb (Nat.not_lt_zero b), fun b hb => absurd hb (Nat.not_lt_zero b), fun b hb => absurd hb (Nat.not_lt_zero b), fun b hb => absurd hb (Nat.not_lt_zero b)⟩ ⟨rfl, rfl, rfl, rfl, r5, fun b hb => absurd hb (Nat.not_lt_zero b), fun b hb => absurd hb (Nat.not_lt_zero b), fun b hb => absurd hb (Nat.not_lt_zero b)⟩
        refine ⟨nI (bn B'), 0, nI (bn B'), ct', ck', cp', cl', cg', ca', cwd', chg', cs', 0, 0, nI (bn B'), 0, 0, sd', kk', kat', ks', ky', kg', kwho', khe', B', Q, ?_, ?_, x3, x4, x5, x6, x7, lgR_forget hl x5⟩
        · show jb (f_BargeBasin_make_L52 (nI many) (nI (bw B)) (nI (bh B)) cwl jN 0 0 0 ck cp cl cg ca cwd chg cs v1) _ = _
          rw [ev_b (x := f_BargeBasin_make_L52 (nI many) (nI (bw B)) (nI (bh B)) cwl jN 0 0 0 ck cp cl cg ca cwd chg cs v1) _ x1, un11_ap]
          rfl
        · rw [ev_b (x := f_BargeBasinModel_make_L55 (nI many) (nI (bw B)) (nI (bh B)) kwl jN 0 0 v1 kk kat ks ky kg kwho khe) _ x2, un9_ap]
          rfl
      · rw [if_neg q3, if_neg q3]; exact bad _ _ rfl rfl
