/-! gate: both sides set the same gate. -/
def setG (B : Bas) (b g : Nat) : Bas := (bw B, bh B, bn B, bK B, bS B, bY B, updN (bG B) b g, bwl B)
theorem setG_bas {B : Bas} {b g : Nat} (h : basOk B) (hg : g < 64) : basOk (setG B b g) := by
  obtain ⟨h1, h2, h3, h4, h5, h6, h7⟩ := h
  refine ⟨h1, h2, h3, h4, h5, h6, fun i hi e => ?_⟩
  show updN (bG B) b g i < 64
  by_cases z : i = b
  · subst z; rw [updN_s]; exact hg
  · rw [updN_n z]; exact h7 i hi e
theorem setG_st {B : Bas} {P : Nat → Nat} {b g : Nat} (h : stC B P) (g1 : bY B b = 0 → P b / 8 = g / 8) (g2 : bY B b = 1 → P b % 8 = g % 8) (g3 : g % 8 + xW B b ≤ bw B) (g4 : g / 8 + xH B b ≤ bh B) : stC (setG B b g) P := by
  refine ⟨h.1, h.2.1, fun a ha e => ?_⟩
  show (bY B a = 0 → P a / 8 = updN (bG B) b g a / 8) ∧ (bY B a = 1 → P a % 8 = updN (bG B) b g a % 8) ∧ updN (bG B) b g a % 8 + xW B a ≤ bw B ∧ updN (bG B) b g a / 8 + xH B a ≤ bh B
  by_cases z : a = b
  · subst z; rw [updN_s]; exact ⟨g1, g2, g3, g4⟩
  · rw [updN_n z]; exact h.2.2 a ha e
theorem chG_upd {B : Bas} {b g : Nat} {kg : Nat → Int32} (h : chG B kg) : chG (setG B b g) (upd kg b (nI g)) := by
  intro i hi e
  show _ = nI (updN (bG B) b g i)
  by_cases z : i = b
  · subst z; rw [pk_us, updN_s]
  · rw [pk_un z, updN_n z]; exact h i hi e
/-- the gate lies on the barge's line, and the barge would lie inside there -/
def onL (B : Bas) (P : Nat → Nat) (b x y : Nat) : Bool := (if bY B b = 1 then decide (x = P b % 8) else decide (y = P b / 8)) && decide (x + xW B b ≤ bw B ∧ y + xH B b ≤ bh B)
theorem s_isOnLine {B : Bas} {P : Nat → Nat} {b x y : Nat} {ck ca cwd chg cp : Nat → Int32} {cs : Nat → Int64} (h : basOk B) (hP : stC B P) (hc : chB B ck ca cwd chg cs) (hp : chP B P cp) (hb : b < bn B) (hx : x < 8) (hy : y < 8) : f_Chart_isOnLine (nI b) (nI x) (nI y) (nI (bw B)) (nI (bh B)) cp ca cwd chg = some (bI (onL B P b x y)) := by
  obtain ⟨a1, a2, a3, a4, a5, a6, a7, a8⟩ := basOk_wh h hb
  obtain ⟨k1, k2, k3, k4, k5⟩ := hc b hb
  have p64 := ins_64 h hP.1.1 hb
  have w8 := h.2.1
  have h8 := h.2.2.2.1
  have ins := s_isInside (x := nI x) (y := nI y) (W := xW B b) (H := xH B b) w8 h8 (by omega) (by omega)
  rw [nI_toInt (show x < 2 ^ 31 by omega), nI_toInt (show y < 2 ^ 31 by omega)] at ins
  have J : ∀ c : Bool, f_Chart_isOnLine_J47 (nI b) (nI x) (nI y) (bI c) (nI (bw B)) (nI (bh B)) cwd chg = some (bI (c && decide (x + xW B b ≤ bw B ∧ y + xH B b ≤ bh B))) := by
    intro c
    unfold f_Chart_isOnLine_J47
    cases c with
    | false => rfl
    | true =>
      rw [if_neg (show ¬ bI true = 0 by decide), ev_grdN _ a1 (by decide), ev_grdN _ a1 (by decide), cl_nI a1, k3, k4, ev_b _ ins, Bool.true_and]
      have de : decide (0 ≤ (x : Int) ∧ (x : Int) + xW B b ≤ bw B ∧ 0 ≤ (y : Int) ∧ (y : Int) + xH B b ≤ bh B) = decide (x + xW B b ≤ bw B ∧ y + xH B b ≤ bh B) := decide_eq_decide.mpr (by omega)
      rw [de]
      cases decide (x + xW B b ≤ bw B ∧ y + xH B b ≤ bh B) <;> rfl
  unfold f_Chart_isOnLine onL
  rw [ev_grdN _ a1 (by decide), ev_grdN _ a1 (by decide), ev_grdN _ a1 (by decide), cl_nI a1, k2, hp b hb, and7 p64, shr3 _ p64]
  have e1 : (nI y = nI (P b / 8)) = (y = P b / 8) := nI_eqL (by omega) (by omega)
  have e2 : (nI x = nI (P b % 8)) = (x = P b % 8) := nI_eqL (by omega) (by omega)
  simp only [e1, e2]
  rw [show (1 : Int32) = bI true from rfl, J true]
  have J0 := J false
  rw [show bI false = (0 : Int32) from rfl] at J0
  rw [J0]
  by_cases z : bY B b = 1
  · rw [if_pos z, decide_eq_true z, if_neg (show ¬ bI true = 0 by decide)]
    by_cases q : x = P b % 8
    · rw [if_pos q, decide_eq_true q]
    · rw [if_neg q, decide_eq_false q]
  · rw [if_neg z, decide_eq_false z, if_pos (show bI false = 0 by decide)]
    by_cases q : y = P b / 8
    · rw [if_pos q, decide_eq_true q]
    · rw [if_neg q, decide_eq_false q]
theorem eq_gate {B : Bas} {P : Nat → Nat} {cw chh cn : Int32} {cwl ct : Int64} {ck cp cl cg ca cwd chg : Nat → Int32} {cs : Nat → Int64} {khas kw kh kn : Int32} {kwl kk kat ks ky kg : Nat → Int32} {lf ld lu um rm : Int32} {lm ub uf ut rb rf rt : Nat → Int32} (h : basOk B) (hP : stC B P) (hc : chX B P cw chh cn cwl ct ck cp cl cg ca cwd chg cs) (hr : rfX B P khas kw kh kn kwl kk kat ks ky kg) (hl : lgR B P lf ld lu lm um rm ub uf ut rb rf rt) (v1 v2 v3 st st2 th : Int32) :
    ∃ (ans st' : Int32) (cg' : Nat → Int32) (ld' lu' um' rm' : Int32) (kg' : Nat → Int32) (B' : Bas), f_BargeBasin_gate v1 v2 v3 st cw chh cn ck cp cg ca cwd chg ld lu = some (ans, st', cg', ld', lu') ∧
      f_BargeBasinModel_gate v1 v2 v3 st2 th khas kw kh kn um rm kk kat ks ky kg = some (ans, st', 0, um', rm', kg') ∧
      (B' = B ∨ ∃ b x y, b < bn B ∧ bK B b = 5 ∧ x + xW B b ≤ bw B ∧ y + xH B b ≤ bh B ∧ B' = setG B b (x + 8 * y)) ∧ basOk B' ∧ stC B' P ∧ chX B' P cw chh cn cwl ct ck cp cl cg' ca cwd chg cs ∧ rfX B' P khas kw kh kn kwl kk kat ks ky kg' ∧ lgR B' P lf ld' lu' lm um' rm' ub uf ut rb rf rt := by
  have n12 := h.2.2.2.2.1
  have w8 := h.2.1
  have h8 := h.2.2.2.1
  have hc0 := hc
  have hr0 := hr
  obtain ⟨c1, c2, c3, c4, c5, c6, c7, c8, c9⟩ := hc
  obtain ⟨r1, r2, r3, r4, r5, r6, r7, r8⟩ := hr
  subst c1; subst c2; subst c3; subst r1; subst r2; subst r3; subst r4
  unfold f_BargeBasin_gate f_BargeBasinModel_gate
  rw [if_neg (show ¬ (1 : Int32) = 0 by decide)]
  rcases ix3 v1 (show bn B < 2 ^ 31 by omega) with z | ⟨b, hb, z⟩
  · rw [ev_b _ (fb_cn h z), ev_b _ (ib_cn z), if_neg (show ¬ (2 : Int32) = 0 by decide), if_pos rfl]
    exact ⟨0, 2, cg, ld, lu, um, rm, kg, B, rfl, rfl, Or.inl rfl, h, hP, hc0, hr0, hl⟩
  · subst z
    obtain ⟨a1, a2, a3, a4, a5, a6, a7, a8⟩ := basOk_wh h hb
    obtain ⟨k1, k2, k3, k4, k5⟩ := c6 b hb
    obtain ⟨m1, m2, m3⟩ := r6 b hb
    have p64 := ins_64 h hP.1.1 hb
    rw [ev_b _ (fb_c h hb), ev_b _ (ib_c h hb), if_pos rfl, if_neg (show ¬ (1 : Int32) = 0 by decide)]
    rcases fld (v1 := v2) (v2 := v3) h with ⟨x, y, hx, hy, ex, ey, f1, f2⟩ | ⟨-, f1, f2⟩
    · rw [ev_b _ f1, ev_b _ f2, if_pos rfl, if_neg (show ¬ (1 : Int32) = 0 by decide)]
      subst ex; subst ey
      have ce : (nI (bK B b) = 5) = (bK B b = 5) := nI_eqL (j := 5) (by omega) (by decide)
      simp only [ev_grdN _ a1 (show 12 < 2 ^ 31 by decide), cl_nI a1, k1, m1, m3, r7 b hb, ce]
      by_cases k5' : bK B b = 5
      · rw [if_pos k5', if_pos k5', ev_b _ (s_isOnLine h hP c6 c7 hb (by omega) (by omega)), ev_div _ (by decide), ev_div _ (by decide), geo_r8 (show P b < 2 ^ 31 by omega), geo_d8 (show P b < 2 ^ 31 by omega)]
        have e1 : (nI y = nI (P b / 8)) = (y = P b / 8) := nI_eqL (by omega) (by omega)
        have e2 : (nI x = nI (P b % 8)) = (x = P b % 8) := nI_eqL (by omega) (by omega)
        have e3 : (nI (bY B b) = 0) = (bY B b = 0) := nI_eqL (j := 0) (by omega) (by decide)
        simp only [e1, e2, e3]
        have J : ∀ c : Bool, f_BargeBasinModel_gate_J110 (nI b) (nI x) (nI y) (bI c) 0 0 (nI (bw B)) (nI (bh B)) um rm kk ks ky kg = if (c && decide (x + xW B b ≤ bw B ∧ y + xH B b ≤ bh B)) = true then some (1, 0, 0, 0, 0, upd kg b (nI (x + 8 * y))) else some (0, 7, 0, um, rm, kg) := by
          intro c
          unfold f_BargeBasinModel_gate_J110
          cases c with
          | false => rfl
          | true =>
            rw [if_neg (show ¬ bI true = 0 by decide), ev_b _ (m_wide a1 m1 m2 m3 a2 a3), nI_add, ev_b _ (m_tall a1 m1 m2 m3 a2 a3), nI_add, i8, nI_add, ev_bnd, ev_grdN _ a1 (by decide), cl_nI a1, Bool.true_and]
            simp only [nI_ltE (show bw B < 2 ^ 31 by omega) (show x + bW (bK B b) (bS B b) (bY B b) < 2 ^ 31 by have : bW (bK B b) (bS B b) (bY B b) < 5 := a5; omega), nI_leE (show y + bH (bK B b) (bS B b) (bY B b) < 2 ^ 31 by have : bH (bK B b) (bS B b) (bY B b) < 5 := a7; omega) (show bh B < 2 ^ 31 by omega)]
            by_cases q1 : bw B < x + xW B b
            · rw [if_pos (show bw B < x + bW (bK B b) (bS B b) (bY B b) from q1), if_neg (by rw [decide_eq_true_eq]; omega)]; rfl
            · rw [if_neg (show ¬ bw B < x + bW (bK B b) (bS B b) (bY B b) from q1)]
              by_cases q2 : y + xH B b ≤ bh B
              · rw [if_pos (show y + bH (bK B b) (bS B b) (bY B b) ≤ bh B from q2), if_pos (by rw [decide_eq_true_eq]; omega)]; rfl
              · rw [if_neg (show ¬ y + bH (bK B b) (bS B b) (bY B b) ≤ bh B from q2), if_neg (by rw [decide_eq_true_eq]; omega)]; rfl
        have J1 := J true
        have J0 := J false
        rw [show bI true = (1 : Int32) from rfl] at J1
        rw [show bI false = (0 : Int32) from rfl] at J0
        have R : (if bY B b = 0 then if y = P b / 8 then f_BargeBasinModel_gate_J110 (nI b) (nI x) (nI y) 1 0 0 (nI (bw B)) (nI (bh B)) um rm kk ks ky kg else f_BargeBasinModel_gate_J110 (nI b) (nI x) (nI y) 0 0 0 (nI (bw B)) (nI (bh B)) um rm kk ks ky kg else if x = P b % 8 then f_BargeBasinModel_gate_J110 (nI b) (nI x) (nI y) 1 0 0 (nI (bw B)) (nI (bh B)) um rm kk ks ky kg else f_BargeBasinModel_gate_J110 (nI b) (nI x) (nI y) 0 0 0 (nI (bw B)) (nI (bh B)) um rm kk ks ky kg) = if onL B P b x y = true then some (1, 0, 0, 0, 0, upd kg b (nI (x + 8 * y))) else some (0, 7, 0, um, rm, kg) := by
          rw [J1, J0]
          unfold onL
          by_cases z : bY B b = 1
          · rw [if_neg (show ¬ bY B b = 0 by omega), if_pos z]
            by_cases q : x = P b % 8
            · rw [if_pos q, decide_eq_true q]
            · rw [if_neg q, decide_eq_false q]
          · rw [if_pos (show bY B b = 0 by omega), if_neg z]
            by_cases q : y = P b / 8
            · rw [if_pos q, decide_eq_true q]
            · rw [if_neg q, decide_eq_false q]
        rw [R]
        cases eo : onL B P b x y with
        | false =>
          rw [if_pos (show bI false = 0 by decide), if_neg (show ¬ false = true by decide)]
          exact ⟨0, 7, cg, ld, lu, um, rm, kg, B, rfl, rfl, Or.inl rfl, h, hP, hc0, hr0, hl⟩
        | true =>
          have inb : x + xW B b ≤ bw B ∧ y + xH B b ≤ bh B := by
            unfold onL at eo
            rw [Bool.and_eq_true, decide_eq_true_eq] at eo
            exact eo.2
          have e8 : (8 : Int32) * nI y + nI x = nI (x + 8 * y) := by rw [i8, nI_add, Nat.add_comm]
          rw [if_neg (show ¬ bI true = 0 by decide), if_pos rfl, e8, ev_bnd]
          have sb := setG_bas (b := b) h (show x + 8 * y < 64 by omega)
          have onl : (if bY B b = 1 then decide (x = P b % 8) else decide (y = P b / 8)) = true := by
            unfold onL at eo
            rw [Bool.and_eq_true] at eo
            exact eo.1
          have sg : stC (setG B b (x + 8 * y)) P := setG_st hP (fun y0 => by
            rw [if_neg (show ¬ bY B b = 1 by omega), decide_eq_true_eq] at onl
            omega) (fun y1 => by
            rw [if_pos y1, decide_eq_true_eq] at onl
            omega) (by omega) (by omega)
          exact ⟨1, 0, upd cg b (nI (x + 8 * y)), 0, 0, 0, 0, upd kg b (nI (x + 8 * y)), setG B b (x + 8 * y), rfl, rfl, Or.inr ⟨b, x, y, hb, k5', inb.1, inb.2, rfl⟩, sb, sg, ⟨rfl, rfl, rfl, c4, c5, c6, c7, c8, chG_upd c9⟩, ⟨rfl, rfl, rfl, rfl, r5, r6, r7, chG_upd r8⟩, lgR_forget hl sg⟩
      · rw [if_neg k5', if_neg k5']
        exact ⟨0, 5, cg, ld, lu, um, rm, kg, B, rfl, rfl, Or.inl rfl, h, hP, hc0, hr0, hl⟩
    · rw [ev_b _ f1, ev_b _ f2, if_neg (show ¬ (1 : Int32) = 0 by decide), if_pos rfl]
      exact ⟨0, 2, cg, ld, lu, um, rm, kg, B, rfl, rfl, Or.inl rfl, h, hP, hc0, hr0, hl⟩
