/-! Who lies where: clearWho, lay, layAll of the reference. -/
theorem i8 (y : Nat) : (8 : Int32) * nI y = nI (8 * y) := pk_mul 8 y
theorem m_clearL : ∀ (d i n : Nat) (kw : Nat → Int32), i + d = 64 → d < n → f_BargeBasinModel_clearWho_L2 n (nI i) kw = some (fun f => if i ≤ f ∧ f < 64 then -1 else kw f) := by
  intro d
  induction d with
  | zero =>
    intro i n kw h hn
    obtain ⟨m, rfl⟩ : ∃ m, n = m + 1 := ⟨n - 1, by omega⟩
    have e : i = 64 := by omega
    subst e
    rw [f_BargeBasinModel_clearWho_L2, if_pos (show (64 : Int32) ≤ nI 64 by decide)]
    refine congrArg some (funext fun f => ?_)
    rw [if_neg (by omega)]
  | succ d ih =>
    intro i n kw h hn
    obtain ⟨m, rfl⟩ : ∃ m, n = m + 1 := ⟨n - 1, by omega⟩
    rw [f_BargeBasinModel_clearWho_L2, if_neg (show ¬ (64 : Int32) ≤ nI i from nI_ge (b := 64) (show i < 64 by omega) (by decide)), ev_grdN _ (show i < 64 by omega) (by decide), ev_bnd, nI_1, nI_clamp (show i < 2 ^ 31 by omega), ih (i + 1) m _ (by omega) (by omega)]
    refine congrArg some (funext fun f => ?_)
    by_cases a : f = i
    · subst a
      rw [if_neg (by omega), if_pos (by omega), pk_us]
    · rw [pk_un a]
      by_cases c : i + 1 ≤ f ∧ f < 64
      · rw [if_pos c, if_pos (by omega)]
      · rw [if_neg c, if_neg (by omega)]
theorem m_clearWho (kw : Nat → Int32) : f_BargeBasinModel_clearWho kw = some (fun f => if f < 64 then -1 else kw f) := by
  have e := m_clearL 64 0 jN kw (by omega) (by show 64 < 2000000; omega)
  unfold f_BargeBasinModel_clearWho
  rw [ev_b _ (show f_BargeBasinModel_clearWho_L2 jN 0 kw = _ from e)]
  refine congrArg some (funext fun f => ?_)
  by_cases c : f < 64
  · rw [if_pos ⟨Nat.zero_le _, c⟩, if_pos c]
  · rw [if_neg (fun q => c q.2), if_neg c]
/-- a row of w fields from p + 8 y on -/
def inR (p y x w f : Nat) : Bool := decide (p + x + 8 * y ≤ f) && decide (f < p + w + 8 * y)
theorem m_layL16 {b k s yy p y : Nat} {v : Int32} {kk ks ky : Nat → Int32} (hb : b < 12) (hk : kk b = nI k) (hs : ks b = nI s) (hy : ky b = nI yy) (h6 : k < 6) (h2 : yy < 2) (hw8 : bW k s yy ≤ 8) (hin : p + bW k s yy + 8 * y ≤ 64) :
    ∀ (d x n : Nat) (kw : Nat → Int32), x + d = bW k s yy → d < n → f_BargeBasinModel_lay_L16 (nI b) (nI p) v (nI y) kk ks ky n (nI x) kw = some (fun f => if inR p y x (bW k s yy) f then v else kw f) := by
  intro d
  induction d with
  | zero =>
    intro x n kw h hn
    obtain ⟨m, rfl⟩ : ∃ m, n = m + 1 := ⟨n - 1, by omega⟩
    have e : x = bW k s yy := by omega
    subst e
    rw [f_BargeBasinModel_lay_L16, ev_b _ (m_wide hb hk hs hy h6 h2), if_pos (nI_le (Nat.le_refl _) (by omega))]
    refine congrArg some (funext fun f => ?_)
    rw [if_neg (by unfold inR; simp only [Bool.and_eq_true, decide_eq_true_eq]; omega)]
  | succ d ih =>
    intro x n kw h hn
    obtain ⟨m, rfl⟩ : ∃ m, n = m + 1 := ⟨n - 1, by omega⟩
    have e : nI p + nI x + 8 * nI y = nI (p + x + 8 * y) := by rw [i8, nI_add, nI_add]
    rw [f_BargeBasinModel_lay_L16, ev_b _ (m_wide hb hk hs hy h6 h2), if_neg (nI_ge (show x < bW k s yy by omega) (by omega)), e, ev_grdN _ (show p + x + 8 * y < 64 by omega) (by decide), ev_bnd, nI_1, nI_clamp (show p + x + 8 * y < 2 ^ 31 by omega), ih (x + 1) m _ (by omega) (by omega)]
    refine congrArg some (funext fun f => ?_)
    by_cases a : f = p + x + 8 * y
    · subst a
      rw [if_neg (by unfold inR; simp only [Bool.and_eq_true, decide_eq_true_eq]; omega), if_pos (by unfold inR; simp only [Bool.and_eq_true, decide_eq_true_eq]; omega), pk_us]
    · rw [pk_un a]
      have q : inR p y (x + 1) (bW k s yy) f = inR p y x (bW k s yy) f := by
        unfold inR
        rw [Bool.eq_iff_iff]
        simp only [Bool.and_eq_true, decide_eq_true_eq]
        omega
      rw [q]
/-- rows y to h of something w wide at place p -/
def inS (p y w h f : Nat) : Bool := decide (p ≤ f) && decide ((f - p) % 8 < w) && decide (y ≤ (f - p) / 8) && decide ((f - p) / 8 < h)
theorem m_layL3 {b k s yy p : Nat} {v : Int32} {kk ks ky : Nat → Int32} (hb : b < 12) (hk : kk b = nI k) (hs : ks b = nI s) (hy : ky b = nI yy) (h6 : k < 6) (h2 : yy < 2) (hw8 : p % 8 + bW k s yy ≤ 8) (hin : p / 8 + bH k s yy ≤ 8) :
    ∀ (d y n : Nat) (kw : Nat → Int32), y + d = bH k s yy → d < n → f_BargeBasinModel_lay_L3 (nI b) (nI p) v kk ks ky n (nI y) kw = some (fun f => if inS p y (bW k s yy) (bH k s yy) f then v else kw f) := by
  intro d
  induction d with
  | zero =>
    intro y n kw h hn
    obtain ⟨m, rfl⟩ : ∃ m, n = m + 1 := ⟨n - 1, by omega⟩
    have e : y = bH k s yy := by omega
    subst e
    rw [f_BargeBasinModel_lay_L3, ev_b _ (m_tall hb hk hs hy h6 h2), if_pos (nI_le (Nat.le_refl _) (by omega))]
    refine congrArg some (funext fun f => ?_)
    rw [if_neg (by unfold inS; simp only [Bool.and_eq_true, decide_eq_true_eq]; omega)]
  | succ d ih =>
    intro y n kw h hn
    obtain ⟨m, rfl⟩ : ∃ m, n = m + 1 := ⟨n - 1, by omega⟩
    have e := m_layL16 (p := p) (y := y) (v := v) hb hk hs hy h6 h2 (by omega) (by omega) (bW k s yy) 0 jN kw (by omega) (by show bW k s yy < 2000000; omega)
    rw [f_BargeBasinModel_lay_L3, ev_b _ (m_tall hb hk hs hy h6 h2), if_neg (nI_ge (show y < bH k s yy by omega) (by omega)), ev_b _ (show f_BargeBasinModel_lay_L16 (nI b) (nI p) v (nI y) kk ks ky jN 0 kw = _ from e), ev_bnd, nI_1, ih (y + 1) m _ (by omega) (by omega)]
    refine congrArg some (funext fun f => ?_)
    by_cases a : inS p (y + 1) (bW k s yy) (bH k s yy) f = true
    · rw [if_pos a, if_pos (by revert a; unfold inS; simp only [Bool.and_eq_true, decide_eq_true_eq]; omega)]
    · rw [if_neg a]
      by_cases c : inR p y 0 (bW k s yy) f = true
      · rw [if_pos c, if_pos (by revert c; unfold inS inR; simp only [Bool.and_eq_true, decide_eq_true_eq]; omega)]
      · rw [if_neg c, if_neg (by revert a c; unfold inS inR; simp only [Bool.and_eq_true, decide_eq_true_eq]; omega)]
theorem m_lay {b k s yy p : Nat} {v : Int32} {kk ks ky : Nat → Int32} (hb : b < 12) (hk : kk b = nI k) (hs : ks b = nI s) (hy : ky b = nI yy) (h6 : k < 6) (h2 : yy < 2) (hw8 : p % 8 + bW k s yy ≤ 8) (hin : p / 8 + bH k s yy ≤ 8) (kw : Nat → Int32) :
    f_BargeBasinModel_lay (nI b) (nI p) v kk ks ky kw = some (fun f => if inB (p % 8) (p / 8) (bW k s yy) (bH k s yy) f then v else kw f) := by
  have e := m_layL3 (v := v) hb hk hs hy h6 h2 hw8 hin (bH k s yy) 0 jN kw (by omega) (by show bH k s yy < 2000000; omega)
  unfold f_BargeBasinModel_lay
  rw [ev_b _ (show f_BargeBasinModel_lay_L3 (nI b) (nI p) v kk ks ky jN 0 kw = _ from e)]
  refine congrArg some (funext fun f => ?_)
  have q : inS p 0 (bW k s yy) (bH k s yy) f = inB (p % 8) (p / 8) (bW k s yy) (bH k s yy) f := by
    unfold inS inB
    rw [Bool.eq_iff_iff]
    simp only [Bool.and_eq_true, decide_eq_true_eq]
    omega
  rw [q]
