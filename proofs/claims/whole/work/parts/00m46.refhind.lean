/-! The reference's against, goes, beside, hinders. -/
def rI (d : Nat) : Int32 := if d = 1 then 1 else if d = 3 then -1 else 0
def dI (d : Nat) : Int32 := if d = 2 then 1 else if d = 0 then -1 else 0
theorem m_right : ∀ d, d < 4 → f_BargeBasinModel_right (nI d) = some (rI d) := by decide +kernel
theorem m_down : ∀ d, d < 4 → f_BargeBasinModel_down (nI d) = some (dI d) := by decide +kernel
def dxN (d q : Nat) : Nat := (((q % 8 : Nat) : Int) + dxI d).toNat
def dyN (d q : Nat) : Nat := (((q / 8 : Nat) : Int) + dyI d).toNat
theorem geo_rx : ∀ q, q < 64 → ∀ d, d < 4 → 0 ≤ ((q % 8 : Nat) : Int) + dxI d → nI (q % 8) + rI d = nI (dxN d q) := by decide +kernel
theorem geo_ry : ∀ q, q < 64 → ∀ d, d < 4 → 0 ≤ ((q / 8 : Nat) : Int) + dyI d → nI (q / 8) + dI d = nI (dyN d q) := by decide +kernel
theorem geo_nx : ∀ q, q < 64 → ∀ d, d < 4 → ((q % 8 : Nat) : Int) + dxI d < 0 → nI (q % 8) + rI d < 0 := by decide +kernel
theorem geo_ny : ∀ q, q < 64 → ∀ d, d < 4 → ((q / 8 : Nat) : Int) + dyI d < 0 → nI (q / 8) + dI d < 0 := by decide +kernel
theorem geo_r8 {q : Nat} (hq : q < 2 ^ 31) : nI q - nI q / 8 * 8 = nI (q % 8) := pk_rem (d := 8) hq (by decide) (by decide)
theorem geo_d8 {q : Nat} (hq : q < 2 ^ 31) : nI q / 8 = nI (q / 8) := pk_div (d := 8) hq (by decide) (by decide)
theorem m_goes {b d k y : Nat} {kk ky : Nat → Int32} (hb : b < 12) (hd : d < 4) (hk6 : k < 6) (hy2 : y < 2) (hk : kk b = nI k) (hy : ky b = nI y) :
    f_BargeBasinModel_goes (nI b) (nI d) kk ky = some (bI (decide (¬ ((k = 1 ∨ k = 5) ∧ ¬ (y = 1 ↔ d % 2 = 0))))) := by
  unfold f_BargeBasinModel_goes
  rw [ev_b _ (m_isLong hb hk hk6), ev_grdN _ hb (by decide), cl_nI hb, hy]
  have g : ∀ d, d < 4 → ∀ c : Bool, f_BargeBasinModel_goes_J22 (nI d) (bI c) = some (bI (decide (c = true ↔ d % 2 = 1))) := by decide +kernel
  by_cases a : k = 1 ∨ k = 5
  · rw [decide_eq_true a, if_neg (show ¬ bI true = 0 by decide)]
    have : y = 0 ∨ y = 1 := by omega
    rcases this with e | e
    · subst e
      rw [if_pos (show nI 0 = 0 from rfl), show (1 : Int32) = bI true from rfl, g d hd]
      refine congrArg some (congrArg bI (decide_eq_decide.mpr ?_))
      constructor
      · intro q; have := q.mp rfl; omega
      · intro q; have : ¬ d % 2 = 0 := by intro z; apply q; exact ⟨a, by omega⟩
        exact ⟨fun _ => by omega, fun _ => rfl⟩
    · subst e
      rw [if_neg (show ¬ nI 1 = 0 by decide), show (0 : Int32) = bI false from rfl, g d hd]
      refine congrArg some (congrArg bI (decide_eq_decide.mpr ?_))
      constructor
      · intro q z
        have : ¬ d % 2 = 1 := fun w => by cases q.mpr w
        exact z.2 ⟨fun _ => by omega, fun _ => rfl⟩
      · intro q
        have : d % 2 = 0 := by
          by_cases z : d % 2 = 0
          · exact z
          · exact absurd ⟨a, fun i => z (i.mp rfl)⟩ q
        exact ⟨fun w => by (cases w), fun w => by omega⟩
  · have na : ¬ ((k = 1 ∨ k = 5) ∧ ¬ (y = 1 ↔ d % 2 = 0)) := fun q => a q.1
    rw [decide_eq_false a, if_pos (show bI false = 0 by decide), decide_eq_true na]; rfl
/-- a number or none, as an int -/
def oI : Option Nat → Int32
  | none => -1
  | some c => nI c
theorem oI_neg {o : Option Nat} (h : ∀ c, o = some c → c < 2 ^ 31) : (oI o < 0) = (o = none) := by
  cases o with
  | none => exact propext ⟨fun _ => rfl, fun _ => by decide⟩
  | some c => exact propext ⟨fun q => absurd q (nI_pos (h c rfl)), fun q => by cases q⟩
theorem oI_pos {o : Option Nat} (h : ∀ c, o = some c → c < 2 ^ 31) : (0 ≤ oI o) = (¬ o = none) := by
  cases o with
  | none => exact propext ⟨fun q => absurd q (by decide), fun q => absurd rfl q⟩
  | some c => exact propext ⟨fun _ q => by (cases q), fun _ => nI_pos' (h c rfl)⟩
theorem oI_eq {o : Option Nat} {b : Nat} (hb : b < 2 ^ 31) (h : ∀ c, o = some c → c < 2 ^ 31) : (oI o = nI b) = (o = some b) := by
  cases o with
  | none =>
    refine propext ⟨fun q => ?_, fun q => by cases q⟩
    have z : ¬ (-1 : Int32) < 0 := by rw [show (-1 : Int32) = nI b from q]; exact nI_pos hb
    exact absurd (by decide) z
  | some c => exact propext ⟨fun q => by rw [(nI_eq (h c rfl) hb).mp q], fun q => by cases q; rfl⟩
theorem m_agStep {b X Y j W i : Nat} {kwl kk ks ky kwho : Nat → Int32} {wl : Nat → Bool} {wo : Nat → Option Nat} {a c : Bool}
    (hb : b < 12) (hw : f_BargeBasinModel_wide (nI b) kk ks ky = some (nI W)) (hwl : ∀ f, f < 64 → kwl f = bI (wl f)) (hwo : ∀ f, f < 64 → kwho f = oI (wo f)) (ho : ∀ f c, wo f = some c → c < 12) (hX : X + W ≤ 8) (hj : j < 8) (hi : i < X + W) (n : Nat) :
    f_BargeBasinModel_against_L62 (nI b) (nI X) (nI Y) (nI j) kwl kk ks ky kwho (n + 1) (bI a) (bI c) (nI i) = f_BargeBasinModel_against_L62 (nI b) (nI X) (nI Y) (nI j) kwl kk ks ky kwho n (bI (a || wl (i + 8 * j))) (bI (c || decide (¬ wo (i + 8 * j) = none ∧ ¬ wo (i + 8 * j) = some b))) (nI (i + 1)) := by
  rw [f_BargeBasinModel_against_L62, ev_b _ hw, nI_add, if_neg (nI_ge hi (by omega)), i8, nI_add, ev_grdN _ (show i + 8 * j < 64 by omega) (by decide), nI_clamp (show i + 8 * j < 2 ^ 31 by omega), hwl _ (by omega)]
  have J : ∀ z : Bool, f_BargeBasinModel_against_J100 (f_BargeBasinModel_against_L62 (nI b) (nI X) (nI Y) (nI j) kwl kk ks ky kwho n) (nI b) (nI X) (nI Y) (bI c) (nI j) (nI i) (bI z) kwho = f_BargeBasinModel_against_L62 (nI b) (nI X) (nI Y) (nI j) kwl kk ks ky kwho n (bI z) (bI (c || decide (¬ wo (i + 8 * j) = none ∧ ¬ wo (i + 8 * j) = some b))) (nI (i + 1)) := by
    intro z
    unfold f_BargeBasinModel_against_J100
    rw [i8, nI_add, ev_grdN _ (show i + 8 * j < 64 by omega) (by decide), ev_grdN _ (show i + 8 * j < 64 by omega) (by decide), nI_clamp (show i + 8 * j < 2 ^ 31 by omega), hwo _ (by omega)]
    simp only [ev_bnd, nI_1, oI_neg (fun c h => Nat.lt_trans (ho _ c h) (by decide)), oI_eq (show b < 2 ^ 31 by omega) (fun c h => Nat.lt_trans (ho _ c h) (by decide))]
    cases c with
    | true => rfl
    | false =>
      rw [if_pos (show bI false = 0 by decide), Bool.false_or]
      by_cases e1 : wo (i + 8 * j) = none
      · rw [if_pos e1, decide_eq_false (fun q => q.1 e1)]; rfl
      · rw [if_neg e1]
        by_cases e2 : wo (i + 8 * j) = some b
        · rw [if_pos e2, decide_eq_false (fun q => q.2 e2)]; rfl
        · rw [if_neg e2, decide_eq_true ⟨e1, e2⟩]; rfl
  unfold f_BargeBasinModel_against_J95
  rw [show (1 : Int32) = bI true from rfl, show (0 : Int32) = bI false from rfl, J, J]
  cases a with
  | true => rfl
  | false =>
    rw [Bool.false_or]
    cases wl (i + 8 * j) <;> rfl
theorem m_agL62 {b X Y j W : Nat} {kwl kk ks ky kwho : Nat → Int32} {wl : Nat → Bool} {wo : Nat → Option Nat}
    (hb : b < 12) (hw : f_BargeBasinModel_wide (nI b) kk ks ky = some (nI W)) (hwl : ∀ f, f < 64 → kwl f = bI (wl f)) (hwo : ∀ f, f < 64 → kwho f = oI (wo f)) (ho : ∀ f c, wo f = some c → c < 12) (hX : X + W ≤ 8) (hj : j < 8) :
    ∀ (r i n : Nat) (a c : Bool), i + r = X + W → r < n → ∃ a' c' : Bool, f_BargeBasinModel_against_L62 (nI b) (nI X) (nI Y) (nI j) kwl kk ks ky kwho n (bI a) (bI c) (nI i) = some (bI a', bI c') ∧
      (a' = true ↔ a = true ∨ ∃ x, i ≤ x ∧ x < X + W ∧ wl (x + 8 * j) = true) ∧ (c' = true ↔ c = true ∨ ∃ x, i ≤ x ∧ x < X + W ∧ (¬ wo (x + 8 * j) = none ∧ ¬ wo (x + 8 * j) = some b)) := by
  intro r
  induction r with
  | zero =>
    intro i n a c h hn
    obtain ⟨m, rfl⟩ : ∃ m, n = m + 1 := ⟨n - 1, by omega⟩
    refine ⟨a, c, ?_, ?_, ?_⟩
    · rw [f_BargeBasinModel_against_L62, ev_b _ hw, nI_add, if_pos (nI_le (by omega) (by omega))]
    · exact ⟨Or.inl, fun q => q.elim id fun ⟨x, h1, h2, _⟩ => by omega⟩
    · exact ⟨Or.inl, fun q => q.elim id fun ⟨x, h1, h2, _⟩ => by omega⟩
  | succ r ih =>
    intro i n a c h hn
    obtain ⟨m, rfl⟩ : ∃ m, n = m + 1 := ⟨n - 1, by omega⟩
    rw [m_agStep hb hw hwl hwo ho hX hj (show i < X + W by omega) m]
    obtain ⟨a', c', e, h1, h2⟩ := ih (i + 1) m (a || wl (i + 8 * j)) (c || decide (¬ wo (i + 8 * j) = none ∧ ¬ wo (i + 8 * j) = some b)) (by omega) (by omega)
    refine ⟨a', c', e, ?_, ?_⟩
    · rw [h1, Bool.or_eq_true]
      constructor
      · rintro ((q | q) | ⟨x, q1, q2, q3⟩)
        · exact Or.inl q
        · exact Or.inr ⟨i, Nat.le_refl _, by omega, q⟩
        · exact Or.inr ⟨x, by omega, q2, q3⟩
      · rintro (q | ⟨x, q1, q2, q3⟩)
        · exact Or.inl (Or.inl q)
        · by_cases z : x = i
          · subst z; exact Or.inl (Or.inr q3)
          · exact Or.inr ⟨x, by omega, q2, q3⟩
    · rw [h2, Bool.or_eq_true, decide_eq_true_eq]
      constructor
      · rintro ((q | q) | ⟨x, q1, q2, q3⟩)
        · exact Or.inl q
        · exact Or.inr ⟨i, Nat.le_refl _, by omega, q⟩
        · exact Or.inr ⟨x, by omega, q2, q3⟩
      · rintro (q | ⟨x, q1, q2, q3⟩)
        · exact Or.inl (Or.inl q)
        · by_cases z : x = i
          · subst z; exact Or.inl (Or.inr q3)
          · exact Or.inr ⟨x, by omega, q2, q3⟩
theorem m_agL47 {b X Y W H : Nat} {kwl kk ks ky kwho : Nat → Int32} {wl : Nat → Bool} {wo : Nat → Option Nat}
    (hb : b < 12) (hw : f_BargeBasinModel_wide (nI b) kk ks ky = some (nI W)) (ht : f_BargeBasinModel_tall (nI b) kk ks ky = some (nI H)) (hwl : ∀ f, f < 64 → kwl f = bI (wl f)) (hwo : ∀ f, f < 64 → kwho f = oI (wo f)) (ho : ∀ f c, wo f = some c → c < 12) (hX : X + W ≤ 8) (hY : Y + H ≤ 8) :
    ∀ (r j n : Nat) (a c : Bool), j + r = Y + H → r < n → ∃ a' c' : Bool, f_BargeBasinModel_against_L47 (nI b) (nI X) (nI Y) kwl kk ks ky kwho n (bI a) (bI c) (nI j) = some (bI a', bI c') ∧
      (a' = true ↔ a = true ∨ ∃ z x, j ≤ z ∧ z < Y + H ∧ X ≤ x ∧ x < X + W ∧ wl (x + 8 * z) = true) ∧ (c' = true ↔ c = true ∨ ∃ z x, j ≤ z ∧ z < Y + H ∧ X ≤ x ∧ x < X + W ∧ (¬ wo (x + 8 * z) = none ∧ ¬ wo (x + 8 * z) = some b)) := by
  intro r
  induction r with
  | zero =>
    intro j n a c h hn
    obtain ⟨m, rfl⟩ : ∃ m, n = m + 1 := ⟨n - 1, by omega⟩
    refine ⟨a, c, ?_, ?_, ?_⟩
    · rw [f_BargeBasinModel_against_L47, ev_b _ ht, nI_add, if_pos (nI_le (by omega) (by omega))]
    · exact ⟨Or.inl, fun q => q.elim id fun ⟨z, x, h1, h2, _⟩ => by omega⟩
    · exact ⟨Or.inl, fun q => q.elim id fun ⟨z, x, h1, h2, _⟩ => by omega⟩
  | succ r ih =>
    intro j n a c h hn
    obtain ⟨m, rfl⟩ : ∃ m, n = m + 1 := ⟨n - 1, by omega⟩
    obtain ⟨a1, c1, e1, p1, p2⟩ := m_agL62 (Y := Y) hb hw hwl hwo ho hX (show j < 8 by omega) W X jN a c (by omega) (by show W < 2000000; omega)
    rw [f_BargeBasinModel_against_L47, ev_b _ ht, nI_add, if_neg (nI_ge (by omega) (by omega)), ev_b _ e1]
    show ∃ a' c' : Bool, f_BargeBasinModel_against_L47 (nI b) (nI X) (nI Y) kwl kk ks ky kwho m (bI a1) (bI c1) (nI j + 1) = some (bI a', bI c') ∧ _
    rw [nI_1]
    obtain ⟨a', c', e, h1, h2⟩ := ih (j + 1) m a1 c1 (by omega) (by omega)
    refine ⟨a', c', e, ?_, ?_⟩
    · rw [h1, p1]
      constructor
      · rintro ((q | ⟨x, q1, q2, q3⟩) | ⟨z, x, q1, q2, q3⟩)
        · exact Or.inl q
        · exact Or.inr ⟨j, x, Nat.le_refl _, by omega, q1, q2, q3⟩
        · exact Or.inr ⟨z, x, by omega, q2, q3⟩
      · rintro (q | ⟨z, x, q1, q2, q3, q4, q5⟩)
        · exact Or.inl (Or.inl q)
        · by_cases v : z = j
          · subst v; exact Or.inl (Or.inr ⟨x, q3, q4, q5⟩)
          · exact Or.inr ⟨z, x, by omega, q2, q3, q4, q5⟩
    · rw [h2, p2]
      constructor
      · rintro ((q | ⟨x, q1, q2, q3⟩) | ⟨z, x, q1, q2, q3⟩)
        · exact Or.inl q
        · exact Or.inr ⟨j, x, Nat.le_refl _, by omega, q1, q2, q3⟩
        · exact Or.inr ⟨z, x, by omega, q2, q3⟩
      · rintro (q | ⟨z, x, q1, q2, q3, q4, q5⟩)
        · exact Or.inl (Or.inl q)
        · by_cases v : z = j
          · subst v; exact Or.inl (Or.inr ⟨x, q3, q4, q5⟩)
          · exact Or.inr ⟨z, x, by omega, q2, q3, q4, q5⟩
theorem box_any {X Y W H : Nat} {p : Nat → Bool} (hX : X + W ≤ 8) (hY : Y + H ≤ 8) : (∃ z x, Y ≤ z ∧ z < Y + H ∧ X ≤ x ∧ x < X + W ∧ p (x + 8 * z) = true) ↔ anyF (fun f => inB X Y W H f && p f) = true := by
  rw [anyF_t]
  constructor
  · rintro ⟨z, x, h1, h2, h3, h4, h5⟩
    refine ⟨x + 8 * z, by omega, ?_⟩
    rw [h5, Bool.and_true]
    unfold inB
    simp only [Bool.and_eq_true, decide_eq_true_eq]
    omega
  · rintro ⟨f, hf, h⟩
    simp only [inB, Bool.and_eq_true, decide_eq_true_eq] at h
    refine ⟨f / 8, f % 8, by omega, by omega, by omega, by omega, ?_⟩
    rw [Nat.mod_add_div]
    exact h.2
theorem m_against {b X Y w h W H : Nat} {kwl kk ks ky kwho : Nat → Int32} {wl ot : Nat → Bool} {wo : Nat → Option Nat}
    (hb : b < 12) (hw : f_BargeBasinModel_wide (nI b) kk ks ky = some (nI W)) (ht : f_BargeBasinModel_tall (nI b) kk ks ky = some (nI H)) (hwl : ∀ f, f < 64 → kwl f = bI (wl f)) (hwo : ∀ f, f < 64 → kwho f = oI (wo f)) (ho : ∀ f c, wo f = some c → c < 12)
    (hot : ∀ f, f < 64 → ot f = decide (¬ wo f = none ∧ ¬ wo f = some b)) (hw8 : w ≤ 8) (hh8 : h ≤ 8) (hW : W ≤ 8) (hH : H ≤ 8) (hX : X ≤ 8) (hY : Y ≤ 8) :
    f_BargeBasinModel_against (nI b) (nI X) (nI Y) (nI w) (nI h) kwl kk ks ky kwho = some (nI (if ¬ (X + W ≤ w ∧ Y + H ≤ h) then 2 else if anyF (fun f => inB X Y W H f && wl f) = true then 3 else if anyF (fun f => inB X Y W H f && ot f) = true then 4 else 0)) := by
  unfold f_BargeBasinModel_against
  rw [if_neg (nI_pos (by omega)), if_neg (nI_pos (by omega)), ev_b _ hw, nI_add, ev_b _ ht, nI_add]
  simp only [nI_ltE (show w < 2 ^ 31 by omega) (show X + W < 2 ^ 31 by omega), nI_leE (show Y + H < 2 ^ 31 by omega) (show h < 2 ^ 31 by omega)]
  by_cases h1 : w < X + W
  · rw [if_pos h1, if_pos (by omega)]; rfl
  · rw [if_neg h1]
    by_cases h2 : Y + H ≤ h
    · obtain ⟨a, c, e, e1, e2⟩ := m_agL47 (X := X) (Y := Y) hb hw ht hwl hwo ho (by omega) (by omega) H Y jN false false (by omega) (by show H < 2000000; omega)
      rw [if_pos h2, if_neg (by omega), ev_b _ (show f_BargeBasinModel_against_L47 (nI b) (nI X) (nI Y) kwl kk ks ky kwho jN 0 0 (nI Y) = _ from e)]
      have f1 : (anyF (fun f => inB X Y W H f && wl f)) = a := by
        rw [Bool.eq_iff_iff, ← box_any (by omega) (by omega), e1]
        exact ⟨Or.inr, fun q => q.elim (fun z => by cases z) id⟩
      have f2 : (anyF (fun f => inB X Y W H f && ot f)) = c := by
        rw [anyF_cg (q := fun f => inB X Y W H f && decide (¬ wo f = none ∧ ¬ wo f = some b)) (fun f hf => by rw [hot f hf]), Bool.eq_iff_iff, ← box_any (by omega) (by omega), e2]
        simp only [decide_eq_true_eq]
        exact ⟨Or.inr, fun q => q.elim (fun z => by cases z) id⟩
      rw [f1, f2]
      cases a <;> cases c <;> rfl
    · rw [if_neg h2, if_pos (by omega)]; rfl
