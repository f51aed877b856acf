/-! The reference's beside and hinders. -/
theorem m_isField {x y : Int32} {w h : Nat} (hw : w ≤ 8) (hh : h ≤ 8) : f_BargeBasinModel_isField x y (nI w) (nI h) = some (bI (decide (0 ≤ x.toInt ∧ x.toInt < w ∧ 0 ≤ y.toInt ∧ y.toInt < h))) := by
  unfold f_BargeBasinModel_isField
  have z : (0 : Int32).toInt = 0 := rfl
  simp only [Int32.lt_iff_toInt_lt, Int32.le_iff_toInt_le, nI_toInt (show w < 2 ^ 31 by omega), nI_toInt (show h < 2 ^ 31 by omega), z]
  by_cases h1 : x.toInt < 0
  · rw [if_pos h1, decide_eq_false (by omega)]; rfl
  · rw [if_neg h1]
    by_cases h2 : (w : Int) ≤ x.toInt
    · rw [if_pos h2, decide_eq_false (by omega)]; rfl
    · rw [if_neg h2]
      by_cases h3 : y.toInt < 0
      · rw [if_pos h3, decide_eq_false (by omega)]; rfl
      · rw [if_neg h3]
        by_cases h4 : (h : Int) ≤ y.toInt
        · rw [if_pos h4, decide_eq_false (by omega)]; rfl
        · rw [if_neg h4, decide_eq_true (by omega)]; rfl
theorem geo_tx : ∀ q, q < 64 → ∀ d, d < 4 → (nI (q % 8) + rI d).toInt = ((q % 8 : Nat) : Int) + dxI d := by decide +kernel
theorem geo_ty : ∀ q, q < 64 → ∀ d, d < 4 → (nI (q / 8) + dI d).toInt = ((q / 8 : Nat) : Int) + dyI d := by decide +kernel
def minO : Option Nat → Option Nat → Option Nat
  | none, x => x
  | some a, none => some a
  | some a, some b => some (if b < a then b else a)
theorem minO_lt {a b : Option Nat} {N : Nat} (ha : ∀ c, a = some c → c < N) (hb : ∀ c, b = some c → c < N) : ∀ c, minO a b = some c → c < N := by
  intro c h
  cases a with
  | none => exact hb c h
  | some a =>
    cases b with
    | none => exact ha c h
    | some b =>
      have h1 := ha a rfl
      have h2 := hb b rfl
      simp only [minO] at h
      cases h
      split <;> assumption
def nbO (w h q : Nat) (wo : Nat → Option Nat) (d : Nat) : Option Nat := if goIn w h 1 1 d q = true then wo (nxt d q) else none
theorem nbO_lt {w h q d : Nat} {wo : Nat → Option Nat} (ho : ∀ f c, wo f = some c → c < 12) : ∀ c, nbO w h q wo d = some c → c < 12 := by
  intro c
  unfold nbO
  split
  · exact ho _ c
  · intro h; cases h
theorem m_besStep {q w h d : Nat} {kwho : Nat → Int32} {wo : Nat → Option Nat} {m : Option Nat} (hq : q < 64) (hd : d < 4) (hw : w ≤ 8) (hh : h ≤ 8) (hwo : ∀ f, f < 64 → kwho f = oI (wo f)) (ho : ∀ f c, wo f = some c → c < 12) (hm : ∀ c, m = some c → c < 12) (n : Nat) :
    f_BargeBasinModel_beside_L26 (nI (q % 8)) (nI (q / 8)) (nI w) (nI h) kwho (n + 1) (oI m) (nI d) = f_BargeBasinModel_beside_L26 (nI (q % 8)) (nI (q / 8)) (nI w) (nI h) kwho n (oI (minO m (nbO w h q wo d))) (nI (d + 1)) := by
  rw [f_BargeBasinModel_beside_L26, if_neg (show ¬ (4 : Int32) ≤ nI d from nI_ge (b := 4) hd (by decide)), ev_b _ (m_right d hd), ev_bnd, ev_b _ (m_down d hd), ev_bnd, ev_b _ (m_isField hw hh), geo_tx q hq d hd, geo_ty q hq d hd]
  have g0 : decide (0 ≤ ((q % 8 : Nat) : Int) + dxI d ∧ ((q % 8 : Nat) : Int) + dxI d < w ∧ 0 ≤ ((q / 8 : Nat) : Int) + dyI d ∧ ((q / 8 : Nat) : Int) + dyI d < h) = goIn w h 1 1 d q := by
    unfold goIn
    refine decide_eq_decide.mpr ?_
    omega
  rw [g0]
  unfold nbO
  cases hg : goIn w h 1 1 d q with
  | false =>
    rw [if_pos (show bI false = 0 by decide), ev_bnd, nI_1, if_neg (by decide)]
    cases m <;> rfl
  | true =>
    obtain ⟨g1, g2, g3, g4, g5⟩ := goIn_t hw hh (Nat.le_refl 1) (Nat.le_refl 1) hd hg
    have ex : dxN d q + 8 * dyN d q = nxt d q := by unfold dxN dyN; omega
    rw [if_neg (show ¬ bI true = 0 by decide), if_pos rfl, geo_rx q hq d hd (by omega), geo_ry q hq d hd (by omega), i8, nI_add, ex, ev_grdN _ g1 (by decide), ev_grdN _ g1 (by decide), ev_grdN _ g1 (by decide), nI_clamp (by omega), hwo _ g1]
    simp only [oI_pos (fun c h => Nat.lt_trans (ho _ c h) (show 12 < 2 ^ 31 by decide)), oI_pos (fun c h => Nat.lt_trans (hm c h) (show 12 < 2 ^ 31 by decide)), ev_bnd, nI_1]
    cases e : wo (nxt d q) with
    | none =>
      rw [if_neg (fun z => z rfl)]
      cases m <;> rfl
    | some c =>
      rw [if_pos (by intro z; cases z)]
      cases m with
      | none => rw [if_neg (fun z => z rfl)]; rfl
      | some a =>
        rw [if_pos (by intro z; cases z)]
        have h1 := ho _ c e
        have h2 := hm a rfl
        show f_BargeBasinModel_beside_L26 _ _ _ _ _ _ (if nI c < nI a then nI c else nI a) _ = f_BargeBasinModel_beside_L26 _ _ _ _ _ _ (nI (if c < a then c else a)) _
        by_cases lt : c < a
        · rw [if_pos (nI_lt lt (by omega)), if_pos lt]
        · rw [if_neg (nI_nlt (by omega) (by omega)), if_neg lt]
def besO (w h q : Nat) (wo : Nat → Option Nat) : Option Nat := minO (minO (minO (nbO w h q wo 0) (nbO w h q wo 1)) (nbO w h q wo 2)) (nbO w h q wo 3)
theorem m_beside {b q w h : Nat} {kwho kh : Nat → Int32} {wo : Nat → Option Nat} (hb : b < 12) (hq : q < 64) (hw : w ≤ 8) (hh : h ≤ 8) (hkh : kh b = nI q) (hwo : ∀ f, f < 64 → kwho f = oI (wo f)) (ho : ∀ f c, wo f = some c → c < 12) :
    f_BargeBasinModel_beside (nI b) (nI w) (nI h) kwho kh = some (oI (besO w h q wo)) := by
  unfold f_BargeBasinModel_beside
  rw [ev_grdN _ hb (by decide), ev_div _ (by decide), ev_bnd, ev_grdN _ hb (by decide), ev_div _ (by decide), ev_bnd, cl_nI hb, hkh, geo_r8 (by omega), geo_d8 (by omega)]
  have e : f_BargeBasinModel_beside_L26 (nI (q % 8)) (nI (q / 8)) (nI w) (nI h) kwho jN (-1) 0 = some (oI (besO w h q wo)) := by
    refine (m_besStep (d := 0) (m := none) hq (by decide) hw hh hwo ho (fun c h => by cases h) 1999999).trans ?_
    refine (m_besStep (d := 1) (m := nbO w h q wo 0) hq (by decide) hw hh hwo ho (nbO_lt ho) 1999998).trans ?_
    refine (m_besStep (d := 2) hq (by decide) hw hh hwo ho (minO_lt (nbO_lt ho) (nbO_lt ho)) 1999997).trans ?_
    refine (m_besStep (d := 3) hq (by decide) hw hh hwo ho (minO_lt (minO_lt (nbO_lt ho) (nbO_lt ho)) (nbO_lt ho)) 1999996).trans ?_
    rw [f_BargeBasinModel_beside_L26, if_pos (show (4 : Int32) ≤ nI (3 + 1) by decide)]
    rfl
  rw [ev_b _ e]
theorem minO_none {a b : Option Nat} : minO a b = none ↔ a = none ∧ b = none := by
  cases a <;> cases b <;> simp [minO]
theorem besO_none {w h q : Nat} {wo : Nat → Option Nat} : besO w h q wo = none ↔ ∀ d, d < 4 → nbO w h q wo d = none := by
  unfold besO
  rw [minO_none, minO_none, minO_none]
  constructor
  · rintro ⟨⟨⟨h0, h1⟩, h2⟩, h3⟩ d hd
    have : d = 0 ∨ d = 1 ∨ d = 2 ∨ d = 3 := by omega
    rcases this with e | e | e | e <;> subst e <;> assumption
  · intro h
    exact ⟨⟨⟨h 0 (by decide), h 1 (by decide)⟩, h 2 (by decide)⟩, h 3 (by decide)⟩
/-- the fields beside q that lie in the basin are those that a step from q leads to -/
theorem nextTo_nxt {w h q f : Nat} (hw : w ≤ 8) (hh : h ≤ 8) (hq : q < 64) (hf : f < 64) (hfw : f % 8 < w) (hfh : f / 8 < h) : nextTo q f = true ↔ ∃ d, d < 4 ∧ goIn w h 1 1 d q = true ∧ nxt d q = f := by
  unfold nextTo
  rw [decide_eq_true_eq]
  constructor
  · rintro (e | e | ⟨e, e2⟩ | ⟨e, e2⟩)
    · refine ⟨2, by decide, ?_, ?_⟩
      · simp [goIn, dxI, dyI]; omega
      · simp [nxt, dxI, dyI]; omega
    · refine ⟨0, by decide, ?_, ?_⟩
      · simp [goIn, dxI, dyI]; omega
      · simp [nxt, dxI, dyI]; omega
    · refine ⟨1, by decide, ?_, ?_⟩
      · simp [goIn, dxI, dyI]; omega
      · simp [nxt, dxI, dyI]; omega
    · refine ⟨3, by decide, ?_, ?_⟩
      · simp [goIn, dxI, dyI]; omega
      · simp [nxt, dxI, dyI]; omega
  · rintro ⟨d, hd, g, e⟩
    have : d = 0 ∨ d = 1 ∨ d = 2 ∨ d = 3 := by omega
    rcases this with z | z | z | z <;> subst z <;> simp [goIn, nxt, dxI, dyI] at g e <;> omega
/-- where others than b lie, and only in the basin -/
def othOk (w h b : Nat) (wo : Nat → Option Nat) (ot : Nat → Bool) : Prop := ∀ f, f < 64 → ot f = decide (¬ wo f = none ∧ ¬ wo f = some b) ∧ (¬ wo f = none → f % 8 < w ∧ f / 8 < h)
theorem besO_any {w h b q : Nat} {wo : Nat → Option Nat} {ot : Nat → Bool} (hw : w ≤ 8) (hh : h ≤ 8) (hq : q < 64) (hot : othOk w h b wo ot) (hb1 : ∀ f, f < 64 → nextTo q f = true → ¬ wo f = some b) :
    ¬ besO w h q wo = none ↔ anyF (fun f => nextTo q f && ot f) = true := by
  rw [besO_none, anyF_t]
  constructor
  · intro hn
    have : ∃ d, d < 4 ∧ ¬ nbO w h q wo d = none := by
      apply Classical.byContradiction
      intro c
      apply hn
      intro d hd
      apply Classical.byContradiction
      intro c2
      exact c ⟨d, hd, c2⟩
    obtain ⟨d, hd, hne⟩ := this
    unfold nbO at hne
    by_cases hg : goIn w h 1 1 d q = true
    · rw [if_pos hg] at hne
      obtain ⟨g1, g2, g3, -, -⟩ := goIn_t hw hh (Nat.le_refl 1) (Nat.le_refl 1) hd hg
      have t := (nextTo_nxt hw hh hq g1 (by omega) (by omega)).mpr ⟨d, hd, hg, rfl⟩
      refine ⟨nxt d q, g1, ?_⟩
      rw [t, (hot _ g1).1, Bool.true_and, decide_eq_true_eq]
      exact ⟨hne, hb1 _ g1 t⟩
    · rw [if_neg hg] at hne
      exact absurd rfl hne
  · rintro ⟨f, hf, e⟩ hn
    rw [Bool.and_eq_true, (hot f hf).1, decide_eq_true_eq] at e
    have i := (hot f hf).2 e.2.1
    obtain ⟨d, hd, hg, hx⟩ := (nextTo_nxt hw hh hq hf i.1 i.2).mp e.1
    have := hn d hd
    unfold nbO at this
    rw [if_pos hg, hx] at this
    exact e.2.1 this
theorem m_hinders {b d q w h k s y : Nat} {kwl kk ks ky kwho kh : Nat → Int32} {wl ot : Nat → Bool} {wo : Nat → Option Nat}
    (hb : b < 12) (hd : d < 4) (hq : q < 64) (hw : w ≤ 8) (hh : h ≤ 8) (hk6 : k < 6) (hy2 : y < 2) (hk : kk b = nI k) (hs : ks b = nI s) (hy : ky b = nI y) (hkh : kh b = nI q)
    (hW1 : 1 ≤ bW k s y) (hH1 : 1 ≤ bH k s y) (hW8 : bW k s y ≤ 8) (hH8 : bH k s y ≤ 8)
    (hwl : ∀ f, f < 64 → kwl f = bI (wl f)) (hwo : ∀ f, f < 64 → kwho f = oI (wo f)) (ho : ∀ f c, wo f = some c → c < 12) (hot : othOk w h b wo ot) (hb1 : k = 4 → ∀ f, f < 64 → nextTo q f = true → ¬ wo f = some b) :
    f_BargeBasinModel_hinders (nI b) (nI d) (nI w) (nI h) kwl kk ks ky kwho kh = some (nI (hindA w h k (bW k s y) (bH k s y) y wl ot d q false)) := by
  unfold f_BargeBasinModel_hinders hindA
  rw [ev_b _ (m_goes hb hd hk6 hy2 hk hy)]
  by_cases a : (k = 1 ∨ k = 5) ∧ ¬ (y = 1 ↔ d % 2 = 0)
  · rw [decide_eq_false (fun z => z a), if_pos (show bI false = 0 by decide), if_pos a]; rfl
  · rw [decide_eq_true a, if_neg (show ¬ bI true = 0 by decide), if_neg a, ev_grdN _ hb (by decide), ev_div _ (by decide), ev_b _ (m_right d hd), ev_grdN _ hb (by decide), ev_div _ (by decide), ev_b _ (m_down d hd), cl_nI hb, hkh, geo_r8 (by omega), geo_d8 (by omega), hk]
    have c4 : (nI k = 4) = (k = 4) := nI_eqL (j := 4) (by omega) (by decide)
    have bs := m_beside (kh := kh) hb hq hw hh hkh hwo ho
    have fin : ∀ r, r < 5 → f_BargeBasinModel_against (nI b) (nI (q % 8) + rI d) (nI (q / 8) + dI d) (nI w) (nI h) kwl kk ks ky kwho = some (nI r) → (if 0 < r then some (nI r) else some (nI (if k = 4 ∧ anyF (fun f => nextTo q f && ot f) = true then 5 else 0))) =
        some (nI (if goIn w h (bW k s y) (bH k s y) d q = false then 2
          else if anyF (fun f => inB (nxt d q % 8) (nxt d q / 8) (bW k s y) (bH k s y) f && wl f) = true then 3
          else if anyF (fun f => inB (nxt d q % 8) (nxt d q / 8) (bW k s y) (bH k s y) f && ot f) = true then 4
          else if k = 4 ∧ anyF (fun f => nextTo (if false = true then nxt d q else q) f && ot f) = true then 5 else 0)) →
        jb (f_BargeBasinModel_against (nI b) (nI (q % 8) + rI d) (nI (q / 8) + dI d) (nI w) (nI h) kwl kk ks ky kwho) (fun r_15 => if r_15 ≤ 0 then jgrd (nI b) 12 (if nI k = 4 then jb (f_BargeBasinModel_beside (nI b) (nI w) (nI h) kwho kh) (fun r_21 => if r_21 < 0 then some (0 : Int32) else some 5) else some 0) else some r_15) =
        some (nI (if goIn w h (bW k s y) (bH k s y) d q = false then 2
          else if anyF (fun f => inB (nxt d q % 8) (nxt d q / 8) (bW k s y) (bH k s y) f && wl f) = true then 3
          else if anyF (fun f => inB (nxt d q % 8) (nxt d q / 8) (bW k s y) (bH k s y) f && ot f) = true then 4
          else if k = 4 ∧ anyF (fun f => nextTo (if false = true then nxt d q else q) f && ot f) = true then 5 else 0)) := by
      intro r hr e he
      rw [← he, ev_b _ e, ev_grdN _ hb (by decide), ev_b _ bs]
      have r0 : (nI r ≤ 0) = (r = 0) := by
        rw [show (0 : Int32) = nI 0 from rfl, nI_leE (by omega) (by decide)]
        exact propext ⟨fun z => by omega, fun z => by omega⟩
      simp only [r0, c4]
      by_cases z : r = 0
      · rw [if_pos z, if_neg (show ¬ 0 < r by omega)]
        by_cases k4 : k = 4
        · simp only [k4, if_true, true_and]
          have bn := besO_any hw hh hq hot (hb1 k4)
          have sm : ∀ c, besO w h q wo = some c → c < 2 ^ 31 := fun c h => Nat.lt_trans ((minO_lt (minO_lt (minO_lt (nbO_lt ho) (nbO_lt ho)) (nbO_lt ho)) (nbO_lt ho)) c h) (by decide)
          simp only [oI_neg sm]
          by_cases v : besO w h q wo = none
          · rw [if_pos v, if_neg (fun u => bn.mpr u v)]; rfl
          · rw [if_neg v, if_pos (bn.mp v)]; rfl
        · simp only [k4, if_false, false_and]; rfl
      · rw [if_neg z, if_pos (show 0 < r by omega)]
    cases hg : goIn w h (bW k s y) (bH k s y) d q with
    | false =>
      rw [hg] at fin
      refine fin 2 (by decide) ?_ rfl
      by_cases n1 : ((q % 8 : Nat) : Int) + dxI d < 0
      · unfold f_BargeBasinModel_against
        rw [if_pos (geo_nx q hq d hd n1)]; rfl
      · by_cases n2 : ((q / 8 : Nat) : Int) + dyI d < 0
        · unfold f_BargeBasinModel_against
          rw [if_pos (geo_ny q hq d hd n2)]
          split <;> rfl
        · have ax : dxI d ≤ 1 := by unfold dxI; split <;> (try split) <;> decide
          have ay : dyI d ≤ 1 := by unfold dyI; split <;> (try split) <;> decide
          rw [geo_rx q hq d hd (by omega), geo_ry q hq d hd (by omega), m_against hb (m_wide hb hk hs hy hk6 hy2) (m_tall hb hk hs hy hk6 hy2) hwl hwo ho (fun f hf => (hot f hf).1) hw hh hW8 hH8 (by unfold dxN; omega) (by unfold dyN; omega)]
          have ng : ¬ (dxN d q + bW k s y ≤ w ∧ dyN d q + bH k s y ≤ h) := by
            unfold goIn at hg
            rw [decide_eq_false_iff_not] at hg
            unfold dxN dyN
            omega
          rw [if_pos ng]
    | true =>
      rw [hg] at fin
      obtain ⟨g1, g2, g3, g4, g5⟩ := goIn_t hw hh hW1 hH1 hd hg
      have ex : dxN d q = nxt d q % 8 := by unfold dxN; omega
      have ey : dyN d q = nxt d q / 8 := by unfold dyN; omega
      have ag := m_against (X := nxt d q % 8) (Y := nxt d q / 8) hb (m_wide hb hk hs hy hk6 hy2) (m_tall hb hk hs hy hk6 hy2) hwl hwo ho (fun f hf => (hot f hf).1) hw hh hW8 hH8 (by omega) (by omega)
      rw [if_neg (fun z => z ⟨g2, g3⟩)] at ag
      rw [geo_rx q hq d hd (by omega), geo_ry q hq d hd (by omega), ex, ey] at fin ⊢
      refine fin _ ?_ ag ?_
      · split
        · decide
        · split <;> decide
      · rw [if_neg (show ¬ true = false by decide)]
        by_cases h3 : anyF (fun f => inB (nxt d q % 8) (nxt d q / 8) (bW k s y) (bH k s y) f && wl f) = true
        · simp only [h3, if_true]; rfl
        · by_cases h4 : anyF (fun f => inB (nxt d q % 8) (nxt d q / 8) (bW k s y) (bH k s y) f && ot f) = true
          · simp only [h3, h4, if_true, if_false, Bool.false_eq_true]; rfl
          · simp only [h3, h4, if_true, if_false, Bool.false_eq_true]; rfl
