/-! barge: both sides add the same barge. -/
theorem upd_back {f : Nat → Int32} {b : Nat} {x : Int32} : upd (upd f b x) b (f b) = f := by
  funext i
  by_cases e : i = b
  · subst e; rw [pk_us]
  · rw [pk_un e, pk_un e]
theorem len_c (v1 v4 : Int32) : (∃ k s, lenOk k s ∧ v1 = nI k ∧ v4 = nI s ∧ f_BargeBasin_isLengthOf v1 v4 = some 1 ∧ (¬ v1 < 1) ∧ (¬ (5 : Int32) < v1) ∧ f_BargeBasinModel_isLength v1 v4 = some 1) ∨ (f_BargeBasin_isLengthOf v1 v4 = some 0 ∧ (v1 < 1 ∨ (5 : Int32) < v1 ∨ f_BargeBasinModel_isLength v1 v4 = some 0)) := by
  have t0 : (0 : Int32).toInt = 0 := rfl
  have t1 : (1 : Int32).toInt = 1 := by decide
  have t2 : (2 : Int32).toInt = 2 := by decide
  have t3 : (3 : Int32).toInt = 3 := by decide
  have t4 : (4 : Int32).toInt = 4 := by decide
  have t5 : (5 : Int32).toInt = 5 := by decide
  have eqI : ∀ (x y : Int32), x = y ↔ x.toInt = y.toInt := fun x y => ⟨fun e => by rw [e], fun e => Int32.toInt_inj.mp e⟩
  have small : ∀ (x : Int32) (n : Nat), n < 100 → x.toInt = n → x = nI n := by
    intro x n hn e
    rw [eqI, e, nI_toInt (by omega)]
  unfold f_BargeBasin_isLengthOf f_BargeBasinModel_isLength
  simp only [eqI, Int32.lt_iff_toInt_lt, t1, t2, t3, t4, t5]
  by_cases out : v1.toInt < 1 ∨ 5 < v1.toInt
  · right
    refine ⟨?_, by omega⟩
    simp only [if_neg (show ¬ v1.toInt = 1 by omega), if_neg (show ¬ v1.toInt = 2 by omega), if_neg (show ¬ v1.toInt = 3 by omega), if_neg (show ¬ v1.toInt = 4 by omega), if_neg (show ¬ v1.toInt = 5 by omega)]
  · have c : v1.toInt = 1 ∨ v1.toInt = 2 ∨ v1.toInt = 3 ∨ v1.toInt = 4 ∨ v1.toInt = 5 := by omega
    rcases c with c | c | c | c | c
    · simp only [if_pos c]
      by_cases l : v4.toInt < 2
      · rw [if_pos l]; exact Or.inr ⟨rfl, Or.inr (Or.inr rfl)⟩
      · rw [if_neg l]
        by_cases l2 : 4 < v4.toInt
        · rw [if_pos l2]; exact Or.inr ⟨rfl, Or.inr (Or.inr rfl)⟩
        · rw [if_neg l2]
          have : v4.toInt = 2 ∨ v4.toInt = 3 ∨ v4.toInt = 4 := by omega
          rcases this with q | q | q
          · exact Or.inl ⟨1, 2, Or.inl ⟨Or.inl rfl, by decide, by decide⟩, by rw [nI_toInt (by decide)]; exact c, by rw [nI_toInt (by decide)]; exact q, rfl, by omega, by omega, rfl⟩
          · exact Or.inl ⟨1, 3, Or.inl ⟨Or.inl rfl, by decide, by decide⟩, by rw [nI_toInt (by decide)]; exact c, by rw [nI_toInt (by decide)]; exact q, rfl, by omega, by omega, rfl⟩
          · exact Or.inl ⟨1, 4, Or.inl ⟨Or.inl rfl, by decide, by decide⟩, by rw [nI_toInt (by decide)]; exact c, by rw [nI_toInt (by decide)]; exact q, rfl, by omega, by omega, rfl⟩
    · simp only [if_pos c, if_neg (show ¬ v1.toInt = 1 by omega), if_neg (show ¬ v1.toInt = 3 by omega), if_neg (show ¬ v1.toInt = 4 by omega), if_neg (show ¬ v1.toInt = 5 by omega)]
      by_cases l : v4.toInt = 1
      · rw [if_pos l]
        exact Or.inl ⟨2, 1, Or.inr (Or.inr ⟨Or.inl rfl, rfl⟩), by rw [nI_toInt (by decide)]; exact c, by rw [nI_toInt (by decide)]; exact l, rfl, by omega, by omega, rfl⟩
      · rw [if_neg l]; exact Or.inr ⟨rfl, Or.inr (Or.inr rfl)⟩
    · simp only [if_pos c, if_neg (show ¬ v1.toInt = 1 by omega), if_neg (show ¬ v1.toInt = 2 by omega), if_neg (show ¬ v1.toInt = 4 by omega), if_neg (show ¬ v1.toInt = 5 by omega)]
      by_cases l : v4.toInt = 2
      · rw [if_pos l]
        exact Or.inl ⟨3, 2, Or.inr (Or.inl ⟨rfl, rfl⟩), by rw [nI_toInt (by decide)]; exact c, by rw [nI_toInt (by decide)]; exact l, rfl, by omega, by omega, rfl⟩
      · rw [if_neg l]; exact Or.inr ⟨rfl, Or.inr (Or.inr rfl)⟩
    · simp only [if_pos c, if_neg (show ¬ v1.toInt = 1 by omega), if_neg (show ¬ v1.toInt = 2 by omega), if_neg (show ¬ v1.toInt = 3 by omega), if_neg (show ¬ v1.toInt = 5 by omega)]
      by_cases l : v4.toInt = 1
      · rw [if_pos l]
        exact Or.inl ⟨4, 1, Or.inr (Or.inr ⟨Or.inr rfl, rfl⟩), by rw [nI_toInt (by decide)]; exact c, by rw [nI_toInt (by decide)]; exact l, rfl, by omega, by omega, rfl⟩
      · rw [if_neg l]; exact Or.inr ⟨rfl, Or.inr (Or.inr rfl)⟩
    · simp only [if_pos c, if_neg (show ¬ v1.toInt = 1 by omega), if_neg (show ¬ v1.toInt = 2 by omega), if_neg (show ¬ v1.toInt = 3 by omega), if_neg (show ¬ v1.toInt = 4 by omega)]
      by_cases l : v4.toInt < 2
      · rw [if_pos l]; exact Or.inr ⟨rfl, Or.inr (Or.inr rfl)⟩
      · rw [if_neg l]
        by_cases l2 : 4 < v4.toInt
        · rw [if_pos l2]; exact Or.inr ⟨rfl, Or.inr (Or.inr rfl)⟩
        · rw [if_neg l2]
          have : v4.toInt = 2 ∨ v4.toInt = 3 ∨ v4.toInt = 4 := by omega
          rcases this with q | q | q
          · exact Or.inl ⟨5, 2, Or.inl ⟨Or.inr rfl, by decide, by decide⟩, by rw [nI_toInt (by decide)]; exact c, by rw [nI_toInt (by decide)]; exact q, rfl, by omega, by omega, rfl⟩
          · exact Or.inl ⟨5, 3, Or.inl ⟨Or.inr rfl, by decide, by decide⟩, by rw [nI_toInt (by decide)]; exact c, by rw [nI_toInt (by decide)]; exact q, rfl, by omega, by omega, rfl⟩
          · exact Or.inl ⟨5, 4, Or.inl ⟨Or.inr rfl, by decide, by decide⟩, by rw [nI_toInt (by decide)]; exact c, by rw [nI_toInt (by decide)]; exact q, rfl, by omega, by omega, rfl⟩
theorem rfX_add {B : Bas} {P : Nat → Nat} {k s y p : Nat} {khas kw kh kn : Int32} {kwl kk kat ks ky kg : Nat → Int32} (hr : rfX B P khas kw kh kn kwl kk kat ks ky kg) : rfX (addB B k s y p) (updN P (bn B) p) khas kw kh (nI (bn B + 1)) kwl (upd kk (bn B) (nI k)) (upd kat (bn B) (nI p)) (upd ks (bn B) (nI s)) (upd ky (bn B) (nI y)) (upd kg (bn B) (nI p)) := by
  obtain ⟨r1, r2, r3, r4, r5, r6, r7, r8⟩ := hr
  refine ⟨r1, r2, r3, rfl, r5, fun i hi => ?_, fun i hi => ?_, fun i hi e => ?_⟩
  · have hi' : i < bn B + 1 := hi
    show _ = nI (updN (bK B) (bn B) k i) ∧ _ = nI (updN (bS B) (bn B) s i) ∧ _ = nI (updN (bY B) (bn B) y i)
    by_cases z : i = bn B
    · rw [z, pk_us, pk_us, pk_us, updN_s, updN_s, updN_s]; exact ⟨rfl, rfl, rfl⟩
    · rw [pk_un z, pk_un z, pk_un z, updN_n z, updN_n z, updN_n z]; exact r6 i (by omega)
  · have hi' : i < bn B + 1 := hi
    by_cases z : i = bn B
    · rw [z, pk_us, updN_s]
    · rw [pk_un z, updN_n z]; exact r7 i (by omega)
  · have hi' : i < bn B + 1 := hi
    show _ = nI (updN (bG B) (bn B) p i)
    by_cases z : i = bn B
    · rw [z, pk_us, updN_s]
    · rw [pk_un z, updN_n z]
      have e' : updN (bK B) (bn B) k i = 5 := e
      rw [updN_n z] at e'
      exact r8 i (by omega) e'
theorem eq_barge {B : Bas} {P : Nat → Nat} {cw chh cn : Int32} {cwl ct : Int64} {ck cp cl cg ca cwd chg : Nat → Int32} {cs : Nat → Int64} {khas kw kh kn : Int32} {kwl kk kat ks ky kg : Nat → Int32} {lf ld lu um rm : Int32} {lm ub uf ut rb rf rt : Nat → Int32} (h : basOk B) (hP : stC B P) (hc : chX B P cw chh cn cwl ct ck cp cl cg ca cwd chg cs) (hr : rfX B P khas kw kh kn kwl kk kat ks ky kg) (hl : lgR B P lf ld lu lm um rm ub uf ut rb rf rt) (v1 v2 v3 v4 : Int32) (ac : Bool) (st st2 th : Int32) (kwho khe : Nat → Int32) :
    ∃ (ans st' cn' : Int32) (ct' : Int64) (ck' cp' cl' cg' ca' cwd' chg' : Nat → Int32) (cs' : Nat → Int64) (ld' lu' kn' um' rm' : Int32) (kk' kat' ks' ky' kg' kwho' khe' : Nat → Int32) (B' : Bas) (Q : Nat → Nat), f_BargeBasin_barge v1 v2 v3 v4 (bI ac) st cw chh cn cwl ct ck cp cl cg ca cwd chg cs ld lu = some (ans, st', cn', ct', ck', cp', cl', cg', ca', cwd', chg', cs', ld', lu') ∧
      f_BargeBasinModel_barge v1 v2 v3 v4 (bI ac) st2 th khas kw kh kn um rm kwl kk kat ks ky kg kwho khe = some (ans, st', 0, kn', um', rm', kk', kat', ks', ky', kg', kwho', khe') ∧
      (B' = B ∨ ∃ k s y p, B' = addB B k s y p ∧ (k = 5 → p % 8 + bW k s y ≤ bw B ∧ p / 8 + bH k s y ≤ bh B)) ∧ basOk B' ∧ stC B' Q ∧ chX B' Q cw chh cn' cwl ct' ck' cp' cl' cg' ca' cwd' chg' cs' ∧ rfX B' Q khas kw kh kn' kwl kk' kat' ks' ky' kg' ∧ lgR B' Q lf ld' lu' lm um' rm' ub uf ut rb rf rt := by
  have n12 := h.2.2.2.2.1
  have w8 := h.2.1
  have h8 := h.2.2.2.1
  have hc0 := hc
  have hr0 := hr
  obtain ⟨c1, c2, c3, c4, c5, c6, c7, c8, c9⟩ := hc
  obtain ⟨r1, r2, r3, r4, r5, r6, r7, r8⟩ := hr
  subst c1; subst c2; subst c3; subst r1; subst r2; subst r3; subst r4
  have bad : ∀ (kw' kh' : Nat → Int32) (X : Option (Int32 × Int32 × Int32 × Int64 × (Nat → Int32) × (Nat → Int32) × (Nat → Int32) × (Nat → Int32) × (Nat → Int32) × (Nat → Int32) × (Nat → Int32) × (Nat → Int64) × Int32 × Int32)) (Y : Option (Int32 × Int32 × Int32 × Int32 × Int32 × Int32 × (Nat → Int32) × (Nat → Int32) × (Nat → Int32) × (Nat → Int32) × (Nat → Int32) × (Nat → Int32) × (Nat → Int32))) (e : Int32), X = some (-1, e, nI (bn B), ct, ck, cp, cl, cg, ca, cwd, chg, cs, ld, lu) → Y = some (-1, e, 0, nI (bn B), um, rm, kk, kat, ks, ky, kg, kw', kh') →
      ∃ (ans st' cn' : Int32) (ct' : Int64) (ck' cp' cl' cg' ca' cwd' chg' : Nat → Int32) (cs' : Nat → Int64) (ld' lu' kn' um' rm' : Int32) (kk' kat' ks' ky' kg' kwho' khe' : Nat → Int32) (B' : Bas) (Q : Nat → Nat), X = some (ans, st', cn', ct', ck', cp', cl', cg', ca', cwd', chg', cs', ld', lu') ∧ Y = some (ans, st', 0, kn', um', rm', kk', kat', ks', ky', kg', kwho', khe') ∧
      (B' = B ∨ ∃ k s y p, B' = addB B k s y p ∧ (k = 5 → p % 8 + bW k s y ≤ bw B ∧ p / 8 + bH k s y ≤ bh B)) ∧ basOk B' ∧ stC B' Q ∧ chX B' Q (nI (bw B)) (nI (bh B)) cn' cwl ct' ck' cp' cl' cg' ca' cwd' chg' cs' ∧ rfX B' Q 1 (nI (bw B)) (nI (bh B)) kn' kwl kk' kat' ks' ky' kg' ∧ lgR B' Q lf ld' lu' lm um' rm' ub uf ut rb rf rt := by
    intro kw' kh' X Y e hX hY
    exact ⟨-1, e, nI (bn B), ct, ck, cp, cl, cg, ca, cwd, chg, cs, ld, lu, nI (bn B), um, rm, kk, kat, ks, ky, kg, kw', kh', B, P, hX, hY, Or.inl rfl, h, hP, hc0, hr0, hl⟩
  rcases len_c v1 v4 with ⟨k, s, lk, ek, es, l1, l2, l3, l4⟩ | ⟨l1, l2⟩
  · rcases fld (v1 := v2) (v2 := v3) h with ⟨x, y, hx, hy, ex, ey, f1, f2⟩ | ⟨-, f1, f2⟩
    · subst ek; subst es; subst ex; subst ey
      have k6 : k < 6 := by unfold lenOk at lk; omega
      have s5 : s < 5 := by unfold lenOk at lk; omega
      -- the way
      obtain ⟨yy, hyy⟩ : ∃ yy, yy = (if ac = true ∧ (k = 1 ∨ k = 5) then 1 else 0) := ⟨_, rfl⟩
      have y2 : yy < 2 := by rw [hyy]; split <;> decide
      have bg : bgOk k s yy := ⟨lk, y2, fun z => by
        rw [hyy] at z
        by_cases c : ac = true ∧ (k = 1 ∨ k = 5)
        · exact c.2
        · rw [if_neg c] at z; cases z⟩
      obtain ⟨g1, g2, g3, g4, g5, g6, g7⟩ := bgOk_wh bg
      have cst : (fun s0 : Int32 => f_BargeBasin_barge_J54 (nI k) (nI x) (nI y) (nI s) s0 st (nI (bw B)) (nI (bh B)) (nI (bn B)) cwl ct ck cp cl cg ca cwd chg cs ld lu) = (fun s0 : Int32 => f_BargeBasin_barge_J54 (nI k) (nI x) (nI y) (nI s) s0 st (nI (bw B)) (nI (bh B)) (nI (bn B)) cwl ct ck cp cl cg ca cwd chg cs ld lu) := rfl
      have CL : f_BargeBasin_barge (nI k) (nI x) (nI y) (nI s) (bI ac) st (nI (bw B)) (nI (bh B)) (nI (bn B)) cwl ct ck cp cl cg ca cwd chg cs ld lu = f_BargeBasin_barge_J54 (nI k) (nI x) (nI y) (nI s) (bI (decide (yy = 1))) st (nI (bw B)) (nI (bh B)) (nI (bn B)) cwl ct ck cp cl cg ca cwd chg cs ld lu := by
        unfold f_BargeBasin_barge f_BargeBasin_barge_J53
        rw [ev_b _ (noBas h), if_pos rfl, ev_b _ l1, if_neg (show ¬ (1 : Int32) = 0 by decide), ev_b _ f1, if_pos rfl, ev_b _ (s_isBound k6)]
        cases ac with
        | false =>
          have : yy = 0 := by rw [hyy]; rw [if_neg (by simp)]
          rw [if_pos (show bI false = 0 by decide), this]; rfl
        | true =>
          rw [if_neg (show ¬ bI true = 0 by decide)]
          by_cases c : k = 1 ∨ k = 5
          · have : yy = 1 := by rw [hyy, if_pos ⟨rfl, c⟩]
            rw [decide_eq_true c, if_neg (show ¬ bI true = 0 by decide), this]; rfl
          · have : yy = 0 := by rw [hyy, if_neg (fun z => c z.2)]
            rw [decide_eq_false c, if_pos (show bI false = 0 by decide), this]; rfl
      obtain ⟨kw1, kh1, e1, o1, p1⟩ := m_layAllB h hP.1.1 r6 r7 kwho khe
      -- the reference with its slot
      have RF : ∀ (b : Nat) (full : Int32), b < 12 → (full = 0 ∨ full = 1) → ∃ r, r < 4 ∧ (r = 0 ↔ fitA B P (bW k s yy) (bH k s yy) x y = true) ∧
          f_BargeBasinModel_barge_J91 (nI k) (nI x) (nI y) (nI s) (bI ac) full (nI b) 0 0 (nI (bw B)) (nI (bh B)) (nI (bn B)) um rm kwl kk kat ks ky kg kw1 kh1 = (if r = 0 ∧ full = 0 then some (nI b, 0, 0, nI (bn B + 1), 0, 0, upd kk b (nI k), upd kat b (nI (x + 8 * y)), upd ks b (nI s), upd ky b (nI yy), upd kg b (nI (x + 8 * y)), kw1, kh1) else some (-1, if r = 0 then 8 else 7, 0, nI (bn B), um, rm, kk, kat, ks, ky, kg, kw1, kh1)) := by
        intro b full b12 hfull
        obtain ⟨r, e2, r4', r0⟩ := m_againstAny (b := b) h r5 o1 (m_wide (kk := upd kk b (nI k)) (ks := upd ks b (nI s)) (ky := upd ky b (nI yy)) b12 pk_us pk_us pk_us k6 y2) (m_tall (kk := upd kk b (nI k)) (ks := upd ks b (nI s)) (ky := upd ky b (nI yy)) b12 pk_us pk_us pk_us k6 y2) g4 g6 hx hy
        refine ⟨r, r4', r0, ?_⟩
        have J163 : f_BargeBasinModel_barge_J163 (nI x) (nI y) full (nI b) (kk b) (ks b) (ky b) (nI b) (nI yy) 0 0 (nI (bw B)) (nI (bh B)) (nI (bn B)) um rm kwl (upd kk b (nI k)) kat (upd ks b (nI s)) ky kg kw1 kh1 = (if r = 0 ∧ full = 0 then some (nI b, 0, 0, nI (bn B + 1), 0, 0, upd kk b (nI k), upd kat b (nI (x + 8 * y)), upd ks b (nI s), upd ky b (nI yy), upd kg b (nI (x + 8 * y)), kw1, kh1) else some (-1, if r = 0 then 8 else 7, 0, nI (bn B), um, rm, kk, kat, ks, ky, kg, kw1, kh1)) := by
          unfold f_BargeBasinModel_barge_J163 f_BargeBasinModel_barge_J184
          simp only [ev_grdN _ b12 (show 12 < 2 ^ 31 by decide), cl_nI b12]
          rw [ev_b _ e2, i8, nI_add]
          have c0 : (0 < nI r) = (0 < r) := nI_ltE (a := 0) (by decide) (by omega)
          have c1 : (nI r ≤ 0) = (r = 0) := by
            rw [show (0 : Int32) = nI 0 from rfl, nI_leE (by omega) (by decide)]
            exact propext ⟨fun z => by omega, fun z => by omega⟩
          simp only [c0, c1, upd_back, ev_bnd, nI_1, pk_us]
          by_cases z : r = 0
          · rw [if_neg (by omega)]
            rcases hfull with y0 | y1
            · rw [if_pos y0, if_pos ⟨z, y0⟩]; rfl
            · rw [if_neg (by rw [y1]; decide), if_pos z, if_neg (fun q => by rw [y1] at q; exact absurd q.2 (by decide)), if_pos z]; rfl
          · rw [if_pos (by omega), if_neg z, if_neg (fun q => z q.1), if_neg z]; rfl
        unfold f_BargeBasinModel_barge_J91 f_BargeBasinModel_barge_J153 f_BargeBasinModel_barge_J162
        simp only [ev_grdN _ b12 (show 12 < 2 ^ 31 by decide), cl_nI b12, ev_bnd]
        have k1 : (nI k = 1) = (k = 1) := nI_eqL (j := 1) (by omega) (by decide)
        have k5 : (nI k = 5) = (k = 5) := nI_eqL (j := 5) (by omega) (by decide)
        simp only [k1, k5]
        rw [← J163]
        by_cases c1 : k = 1
        · rw [if_pos c1]
          cases ac with
          | false =>
            have : yy = 0 := by rw [hyy]; rw [if_neg (by simp)]
            rw [if_pos (show bI false = 0 by decide), this]; rfl
          | true =>
            have : yy = 1 := by rw [hyy, if_pos ⟨rfl, Or.inl c1⟩]
            rw [if_neg (show ¬ bI true = 0 by decide), this]; rfl
        · rw [if_neg c1]
          by_cases c5 : k = 5
          · rw [if_pos c5]
            cases ac with
            | false =>
              have : yy = 0 := by rw [hyy]; rw [if_neg (by simp)]
              rw [if_pos (show bI false = 0 by decide), this]; rfl
            | true =>
              have : yy = 1 := by rw [hyy, if_pos ⟨rfl, Or.inr c5⟩]
              rw [if_neg (show ¬ bI true = 0 by decide), this]; rfl
          · have : yy = 0 := by rw [hyy, if_neg (fun z => by rcases z.2 with q | q; exact c1 q; exact c5 q)]
            rw [if_neg c5, this]; rfl
      have RB : f_BargeBasinModel_barge (nI k) (nI x) (nI y) (nI s) (bI ac) st2 th 1 (nI (bw B)) (nI (bh B)) (nI (bn B)) um rm kwl kk kat ks ky kg kwho khe = f_BargeBasinModel_barge_J91 (nI k) (nI x) (nI y) (nI s) (bI ac) (if bn B = 12 then 1 else 0) (nI (if bn B = 12 then 11 else bn B)) 0 0 (nI (bw B)) (nI (bh B)) (nI (bn B)) um rm kwl kk kat ks ky kg kw1 kh1 := by
        unfold f_BargeBasinModel_barge f_BargeBasinModel_barge_J75
        rw [if_neg (show ¬ (1 : Int32) = 0 by decide), if_neg l2, if_neg l3, ev_b _ f2, if_neg (show ¬ (1 : Int32) = 0 by decide), ev_b _ l4, if_neg (show ¬ (1 : Int32) = 0 by decide), ev_b _ e1, un2_ap]
        have ce : (nI (bn B) = 12) = (bn B = 12) := nI_eqL (j := 12) (by omega) (by decide)
        simp only [ce]
        by_cases c : bn B = 12
        · rw [if_pos c, if_pos c, if_pos c, if_neg (show ¬ (1 : Int32) = 0 by decide)]; rfl
        · rw [if_neg c, if_neg c, if_neg c, if_pos (show True from trivial)]
      have sf := s_fits (k := k) (s := s) (yy := yy) h c4 c5 bg hx hy
      rw [CL, RB]
      unfold f_BargeBasin_barge_J54
      rw [ev_b _ sf]
      by_cases full : bn B = 12
      · rw [if_pos full, if_pos full]
        obtain ⟨r, r4', r0, e3⟩ := RF 11 1 (by decide) (Or.inr rfl)
        rw [e3, if_neg (show ¬ (r = 0 ∧ (1 : Int32) = 0) from fun z => absurd z.2 (by decide))]
        cases ef : fitA B P (bW k s yy) (bH k s yy) x y with
        | false =>
          rw [if_pos (show bI false = 0 by decide), if_neg (show ¬ r = 0 from fun z => by rw [r0.mp z] at ef; cases ef)]
          exact bad kw1 kh1 _ _ 7 rfl rfl
        | true =>
          rw [if_neg (show ¬ bI true = 0 by decide), if_pos (r0.mpr ef), if_neg (show ¬ nI (bn B) < 12 by rw [full]; decide)]
          exact bad kw1 kh1 _ _ 8 rfl rfl
      · have n12' : bn B < 12 := by omega
        rw [if_neg full, if_neg full]
        obtain ⟨r, r4', r0, e3⟩ := RF (bn B) 0 n12' (Or.inl rfl)
        rw [e3]
        cases ef : fitA B P (bW k s yy) (bH k s yy) x y with
        | false =>
          have rn : ¬ r = 0 := fun z => by rw [r0.mp z] at ef; cases ef
          rw [if_pos (show bI false = 0 by decide), if_neg (show ¬ (r = 0 ∧ (0 : Int32) = 0) from fun z => rn z.1), if_neg rn]
          exact bad kw1 kh1 _ _ 7 rfl rfl
        | true =>
          have ef' := ef
          unfold fitA at ef'
          rw [Bool.and_eq_true, decide_eq_true_eq] at ef'
          have px : (x + 8 * y) % 8 = x := by omega
          have py : (x + 8 * y) / 8 = y := by omega
          obtain ⟨ct', ck', cp', cl', cg', ca', cwd', chg', cs', e4, x4⟩ := s_add (p := x + 8 * y) h hc0 bg n12' (by omega) (by rw [px]; have := ef'.1.1; omega)
          have sQ := add_st h hP bg ef
          have e8 : (8 : Int32) * nI y + nI x = nI (x + 8 * y) := by rw [i8, nI_add, Nat.add_comm]
          rw [if_neg (show ¬ bI true = 0 by decide), if_pos (show r = 0 ∧ (0 : Int32) = 0 from ⟨r0.mpr ef, rfl⟩), if_pos (show nI (bn B) < 12 from nI_lt (b := 12) n12' (by decide)), e8, ev_b _ e4, un10_ap]
          refine ⟨nI (bn B), 0, nI (bn B + 1), ct', ck', cp', cl', cg', ca', cwd', chg', cs', 0, 0, nI (bn B + 1), 0, 0, upd kk (bn B) (nI k), upd kat (bn B) (nI (x + 8 * y)), upd ks (bn B) (nI s), upd ky (bn B) (nI yy), upd kg (bn B) (nI (x + 8 * y)), kw1, kh1, addB B k s yy (x + 8 * y), updN P (bn B) (x + 8 * y), ?_, rfl, Or.inr ⟨k, s, yy, x + 8 * y, rfl, fun _ => by rw [px, py]; exact ef'.1⟩, add_bas h bg n12' (by omega), sQ, x4, rfX_add hr0, lgR_forget hl sQ⟩
          show some (nI (bn B + 1) - 1, _) = _
          rw [nI_pred]
    · have CL : f_BargeBasin_barge v1 v2 v3 v4 (bI ac) st (nI (bw B)) (nI (bh B)) (nI (bn B)) cwl ct ck cp cl cg ca cwd chg cs ld lu = some (-1, 2, nI (bn B), ct, ck, cp, cl, cg, ca, cwd, chg, cs, ld, lu) := by
        unfold f_BargeBasin_barge
        rw [ev_b _ (noBas h), if_pos rfl, ev_b _ l1, if_neg (show ¬ (1 : Int32) = 0 by decide), ev_b _ f1, if_neg (show ¬ (1 : Int32) = 0 by decide)]; rfl
      refine bad kwho khe _ _ 2 CL ?_
      unfold f_BargeBasinModel_barge
      rw [if_neg (show ¬ (1 : Int32) = 0 by decide), if_neg l2, if_neg l3, ev_b _ f2, if_pos rfl]; rfl
  · have CL : f_BargeBasin_barge v1 v2 v3 v4 (bI ac) st (nI (bw B)) (nI (bh B)) (nI (bn B)) cwl ct ck cp cl cg ca cwd chg cs ld lu = some (-1, 2, nI (bn B), ct, ck, cp, cl, cg, ca, cwd, chg, cs, ld, lu) := by
      unfold f_BargeBasin_barge
      rw [ev_b _ (noBas h), if_pos rfl, ev_b _ l1, if_pos rfl]; rfl
    refine bad kwho khe _ _ 2 CL ?_
    unfold f_BargeBasinModel_barge
    rw [if_neg (show ¬ (1 : Int32) = 0 by decide)]
    by_cases q1 : v1 < 1
    · rw [if_pos q1]; rfl
    · rw [if_neg q1]
      by_cases q2 : (5 : Int32) < v1
      · rw [if_pos q2]; rfl
      · rw [if_neg q2]
        have l3 : f_BargeBasinModel_isLength v1 v4 = some 0 := by
          rcases l2 with z | z | z
          · exact absurd z q1
          · exact absurd z q2
          · exact z
        rcases fld (v1 := v2) (v2 := v3) h with ⟨x, y, hx, hy, ex, ey, f1, f2⟩ | ⟨-, f1, f2⟩
        · rw [ev_b _ f2, if_neg (show ¬ (1 : Int32) = 0 by decide), ev_b _ l3, if_pos rfl]; rfl
        · rw [ev_b _ f2, if_pos rfl]; rfl
