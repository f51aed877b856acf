section
/-! Lines: what both sides hold of them; basin, get of both sides. -/
/-- what the reference's lines say of field x of row y -/
def wlL (lm ln : Nat → Int32) (y x : Nat) : Bool := if lm y < 0 then false else if lm y ≤ nI x then true else decide (¬ ln (8 * y + x) = 0)
/-- a row: missing on both sides, or of the same sort, size and numbers -/
def lnY (csort csize cnum lsort lmany lnum : Nat → Int32) (y : Nat) : Prop := (csort y = -1 ∧ lmany y < 0) ∨ (∃ t m, t < 3 ∧ m ≤ 8 ∧ csort y = nI t ∧ lsort y = nI t ∧ csize y = nI m ∧ lmany y = nI m ∧ ∀ i, i < m → cnum (8 * y + i) = lnum (8 * y + i))
def lnR (B : Bas) (csort csize cnum lsort lmany lnum : Nat → Int32) : Prop := (∀ y, y < 8 → lnY csort csize cnum lsort lmany lnum y) ∧ (∀ y x, y < bh B → x < bw B → bwl B (x + 8 * y) = wlL lmany lnum y x) ∧ (∀ f, f < 64 → (bw B ≤ f % 8 ∨ bh B ≤ f / 8) → bwl B f = false) ∧ (∀ y, bh B ≤ y → y < 8 → lmany y < 0)
theorem s_tearL : ∀ (d i n : Nat) (kw : Nat → Int32), i + d = 8 → d < n → f_Lines_tearAll_L2 n (nI i) kw = some (fun f => if i ≤ f ∧ f < 8 then -1 else kw f) := by
  intro d
  induction d with
  | zero =>
    intro i n kw h hn
    obtain ⟨m, rfl⟩ : ∃ m, n = m + 1 := ⟨n - 1, by omega⟩
    have e : i = 8 := by omega
    subst e
    rw [f_Lines_tearAll_L2, if_pos (show (8 : Int32) ≤ nI 8 by decide)]
    refine congrArg some (funext fun f => ?_)
    rw [if_neg (by omega)]
  | succ d ih =>
    intro i n kw h hn
    obtain ⟨m, rfl⟩ : ∃ m, n = m + 1 := ⟨n - 1, by omega⟩
    have t : f_Lines_tearOff (nI i) kw = some (upd kw i (-1)) := by
      unfold f_Lines_tearOff
      rw [ev_grdN _ (show i < 8 by omega) (by decide), nI_clamp (show i < 2 ^ 31 by omega)]
    rw [f_Lines_tearAll_L2, if_neg (show ¬ (8 : Int32) ≤ nI i from nI_ge (b := 8) (show i < 8 by omega) (by decide)), ev_b _ t, ev_bnd, nI_1, ih (i + 1) m _ (by omega) (by omega)]
    refine congrArg some (funext fun f => ?_)
    by_cases a : f = i
    · subst a
      rw [if_neg (by omega), if_pos (by omega), pk_us]
    · rw [pk_un a]
      by_cases c : i + 1 ≤ f ∧ f < 8
      · rw [if_pos c, if_pos (by omega)]
      · rw [if_neg c, if_neg (by omega)]
theorem s_tearAll (kw : Nat → Int32) : f_Lines_tearAll kw = some (fun f => if f < 8 then -1 else kw f) := by
  have e := s_tearL 8 0 jN kw (by omega) (by show 8 < 2000000; omega)
  unfold f_Lines_tearAll
  rw [ev_b _ (show f_Lines_tearAll_L2 jN 0 kw = _ from e)]
  refine congrArg some (funext fun f => ?_)
  by_cases c : f < 8
  · rw [if_pos ⟨Nat.zero_le _, c⟩, if_pos c]
  · rw [if_neg (fun q => c q.2), if_neg c]
theorem m_basL60 : ∀ (d i n : Nat) (kw : Nat → Int32), i + d = 8 → d < n → f_BargeBasinModel_basin_L60 n (nI i) kw = some (fun f => if i ≤ f ∧ f < 8 then -1 else kw f) := by
  intro d
  induction d with
  | zero =>
    intro i n kw h hn
    obtain ⟨m, rfl⟩ : ∃ m, n = m + 1 := ⟨n - 1, by omega⟩
    have e : i = 8 := by omega
    subst e
    rw [f_BargeBasinModel_basin_L60, if_pos (show (8 : Int32) ≤ nI 8 by decide)]
    refine congrArg some (funext fun f => ?_)
    rw [if_neg (by omega)]
  | succ d ih =>
    intro i n kw h hn
    obtain ⟨m, rfl⟩ : ∃ m, n = m + 1 := ⟨n - 1, by omega⟩
    rw [f_BargeBasinModel_basin_L60, if_neg (show ¬ (8 : Int32) ≤ nI i from nI_ge (b := 8) (show i < 8 by omega) (by decide)), ev_grdN _ (show i < 8 by omega) (by decide), ev_bnd, nI_1, nI_clamp (show i < 2 ^ 31 by omega), ih (i + 1) m _ (by omega) (by omega)]
    refine congrArg some (funext fun f => ?_)
    by_cases a : f = i
    · subst a
      rw [if_neg (by omega), if_pos (by omega), pk_us]
    · rw [pk_un a]
      by_cases c : i + 1 ≤ f ∧ f < 8
      · rw [if_pos c, if_pos (by omega)]
      · rw [if_neg c, if_neg (by omega)]
theorem m_basL81 : ∀ (d i n : Nat) (kw : Nat → Int32), i + d = 64 → d < n → f_BargeBasinModel_basin_L81 n (nI i) kw = some (fun f => if i ≤ f ∧ f < 64 then 0 else kw f) := by
  intro d
  induction d with
  | zero =>
    intro i n kw h hn
    obtain ⟨m, rfl⟩ : ∃ m, n = m + 1 := ⟨n - 1, by omega⟩
    have e : i = 64 := by omega
    subst e
    rw [f_BargeBasinModel_basin_L81, if_pos (show (64 : Int32) ≤ nI 64 by decide)]
    refine congrArg some (funext fun f => ?_)
    rw [if_neg (by omega)]
  | succ d ih =>
    intro i n kw h hn
    obtain ⟨m, rfl⟩ : ∃ m, n = m + 1 := ⟨n - 1, by omega⟩
    rw [f_BargeBasinModel_basin_L81, if_neg (show ¬ (64 : Int32) ≤ nI i from nI_ge (b := 64) (show i < 64 by omega) (by decide)), ev_grdN _ (show i < 64 by omega) (by decide), ev_bnd, nI_1, nI_clamp (show i < 2 ^ 31 by omega), show vp_nar .boolean (0 : Int32) = 0 from nar_bI false, ih (i + 1) m _ (by omega) (by omega)]
    refine congrArg some (funext fun f => ?_)
    by_cases a : f = i
    · subst a
      rw [if_neg (by omega), if_pos (by omega), pk_us]
    · rw [pk_un a]
      by_cases c : i + 1 ≤ f ∧ f < 64
      · rw [if_pos c, if_pos (by omega)]
      · rw [if_neg c, if_neg (by omega)]
theorem eq_basin (v1 v2 st : Int32) (csort : Nat → Int32) (cw chh cn : Int32) (cwl ct : Int64) (ld lu : Int32) (st2 th khas kw kh kn um rm : Int32) (lmany kwl : Nat → Int32) :
    (∃ w hh, 3 ≤ w ∧ w ≤ 8 ∧ 3 ≤ hh ∧ hh ≤ 8 ∧ v1 = nI w ∧ v2 = nI hh ∧ f_BargeBasin_basin v1 v2 st csort cw chh cn cwl ct ld lu = some (1, 0, (fun f => if f < 8 then -1 else csort f), nI w, nI hh, 0, 0, 0, 0, 0) ∧
      f_BargeBasinModel_basin v1 v2 st2 th khas kw kh kn um rm lmany kwl = some (1, 0, 0, 1, nI w, nI hh, 0, 0, 0, (fun f => if 0 ≤ f ∧ f < 8 then -1 else lmany f), (fun f => if 0 ≤ f ∧ f < 64 then 0 else kwl f))) ∨
    (f_BargeBasin_basin v1 v2 st csort cw chh cn cwl ct ld lu = some (0, 2, csort, cw, chh, cn, cwl, ct, ld, lu) ∧ f_BargeBasinModel_basin v1 v2 st2 th khas kw kh kn um rm lmany kwl = some (0, 2, 0, khas, kw, kh, kn, um, rm, lmany, kwl)) := by
  have t3 : (3 : Int32).toInt = 3 := by decide
  have t8 : (8 : Int32).toInt = 8 := by decide
  have t0 : (0 : Int32).toInt = 0 := rfl
  by_cases a1 : v1 < 3
  · right
    unfold f_BargeBasin_basin f_BargeBasinModel_basin
    rw [if_pos a1, if_pos a1]; exact ⟨rfl, rfl⟩
  by_cases a2 : (8 : Int32) < v1
  · right
    unfold f_BargeBasin_basin f_BargeBasinModel_basin
    rw [if_neg a1, if_neg a1, if_pos a2, if_pos a2]; exact ⟨rfl, rfl⟩
  by_cases a3 : v2 < 3
  · right
    unfold f_BargeBasin_basin f_BargeBasinModel_basin
    rw [if_neg a1, if_neg a1, if_neg a2, if_neg a2, if_pos a3, if_pos a3]; exact ⟨rfl, rfl⟩
  by_cases a4 : v2 ≤ 8
  · left
    have b1 : ¬ v1.toInt < 3 := fun z => a1 (by rw [Int32.lt_iff_toInt_lt, t3]; exact z)
    have b2 : ¬ 8 < v1.toInt := fun z => a2 (by rw [Int32.lt_iff_toInt_lt, t8]; exact z)
    have b3 : ¬ v2.toInt < 3 := fun z => a3 (by rw [Int32.lt_iff_toInt_lt, t3]; exact z)
    have b4 : v2.toInt ≤ 8 := by rw [Int32.le_iff_toInt_le, t8] at a4; exact a4
    obtain ⟨w, hw, ew⟩ := nI_of (x := v1) (fun z => by rw [Int32.lt_iff_toInt_lt, t0] at z; omega)
    obtain ⟨hh, hhh, eh⟩ := nI_of (x := v2) (fun z => by rw [Int32.lt_iff_toInt_lt, t0] at z; omega)
    rw [ew, nI_toInt (by omega)] at b1 b2
    rw [eh, nI_toInt (by omega)] at b3 b4
    refine ⟨w, hh, by omega, by omega, by omega, by omega, ew, eh, ?_, ?_⟩
    · unfold f_BargeBasin_basin
      rw [if_neg a1, if_neg a2, if_neg a3, if_pos a4, ev_b _ (s_tearAll csort), ew, eh]; rfl
    · have e1 := m_basL60 8 0 jN lmany (by omega) (by show 8 < 2000000; omega)
      have e2 := m_basL81 64 0 jN kwl (by omega) (by show 64 < 2000000; omega)
      unfold f_BargeBasinModel_basin
      rw [if_neg a1, if_neg a2, if_neg a3, if_pos a4, ev_b _ (show f_BargeBasinModel_basin_L60 jN 0 lmany = _ from e1), ev_b _ (show f_BargeBasinModel_basin_L81 jN 0 kwl = _ from e2), ew, eh]; rfl
  · right
    unfold f_BargeBasin_basin f_BargeBasinModel_basin
    rw [if_neg a1, if_neg a1, if_neg a2, if_neg a2, if_neg a3, if_neg a3, if_neg a4, if_neg a4]; exact ⟨rfl, rfl⟩
/-! The basin that basin() makes. -/
def empB (w hh : Nat) : Bas := (w, hh, 0, fun _ => 0, fun _ => 0, fun _ => 0, fun _ => 0, fun _ => false)
theorem emp_bas {w hh : Nat} (h1 : 3 ≤ w) (h2 : w ≤ 8) (h3 : 3 ≤ hh) (h4 : hh ≤ 8) : basOk (empB w hh) := ⟨h1, h2, h3, h4, Nat.zero_le _, fun b hb => absurd hb (Nat.not_lt_zero b), fun b hb => absurd hb (Nat.not_lt_zero b)⟩
theorem emp_st {w hh : Nat} : stC (empB w hh) (fun _ => 0) := ⟨⟨fun b hb => absurd hb (Nat.not_lt_zero b), fun b c f hb => absurd hb (Nat.not_lt_zero b), fun b f hb => absurd hb (Nat.not_lt_zero b)⟩, fun _ _ => rfl, fun b hb => absurd hb (Nat.not_lt_zero b)⟩
theorem emp_ch {w hh : Nat} (ck cp cl cg ca cwd chg : Nat → Int32) (cs : Nat → Int64) : chX (empB w hh) (fun _ => 0) (nI w) (nI hh) 0 0 0 ck cp cl cg ca cwd chg cs :=
  ⟨rfl, rfl, rfl, fun f hf => tb_0 f, fun f hf => tb_0 f, fun b hb => absurd hb (Nat.not_lt_zero b), fun b hb => absurd hb (Nat.not_lt_zero b), fun b hb => absurd hb (Nat.not_lt_zero b), fun b hb => absurd hb (Nat.not_lt_zero b)⟩
theorem emp_rf {w hh : Nat} (kwl kk kat ks ky kg : Nat → Int32) : rfX (empB w hh) (fun _ => 0) 1 (nI w) (nI hh) 0 (fun f => if 0 ≤ f ∧ f < 64 then 0 else kwl f) kk kat ks ky kg :=
  ⟨rfl, rfl, rfl, rfl, fun f hf => if_pos ⟨Nat.zero_le _, hf⟩, fun b hb => absurd hb (Nat.not_lt_zero b), fun b hb => absurd hb (Nat.not_lt_zero b), fun b hb => absurd hb (Nat.not_lt_zero b)⟩
theorem emp_ln {w hh : Nat} (h4 : hh ≤ 8) (csort csize cnum lsort lmany lnum : Nat → Int32) : lnR (empB w hh) (fun f => if f < 8 then -1 else csort f) csize cnum lsort (fun f => if 0 ≤ f ∧ f < 8 then -1 else lmany f) lnum := by
  refine ⟨fun y hy => Or.inl ⟨if_pos hy, ?_⟩, fun y x hy hx => ?_, fun _ _ _ => rfl, fun y _ hy => by show (if 0 ≤ y ∧ y < 8 then (-1 : Int32) else lmany y) < 0; rw [if_pos ⟨Nat.zero_le _, hy⟩]; decide⟩
  · show (if 0 ≤ y ∧ y < 8 then (-1 : Int32) else lmany y) < 0
    rw [if_pos ⟨Nat.zero_le _, hy⟩]; decide
  · have hy₉ : y < hh := hy
    show false = wlL _ _ _ _
    unfold wlL
    rw [if_pos (show (if 0 ≤ y ∧ y < 8 then (-1 : Int32) else lmany y) < 0 by rw [if_pos ⟨Nat.zero_le _, by omega⟩]; decide)]
/-! A line's number; get. -/
theorem lin {B : Bas} {v1 : Int32} (h : basOk B) : (∃ y, y < bh B ∧ v1 = nI y ∧ f_BargeBasin_isNoLine v1 (nI (bh B)) = some 0 ∧ f_BargeBasinModel_isLine v1 (nI (bh B)) = some 1) ∨ (f_BargeBasin_isNoLine v1 (nI (bh B)) = some 1 ∧ f_BargeBasinModel_isLine v1 (nI (bh B)) = some 0) := by
  have h8 := h.2.2.2.1
  unfold f_BargeBasin_isNoLine f_BargeBasinModel_isLine
  by_cases a : v1 < 0
  · rw [if_pos a, if_pos a]; exact Or.inr ⟨rfl, rfl⟩
  · rw [if_neg a, if_neg a]
    obtain ⟨y, hy, e⟩ := nI_of (x := v1) a
    subst e
    have e1 : (nI y < nI (bh B)) = (y < bh B) := nI_ltE (by omega) (by omega)
    have e2 : (nI (bh B) ≤ nI y) = (bh B ≤ y) := nI_leE (by omega) (by omega)
    simp only [e1, e2]
    by_cases c : y < bh B
    · rw [if_pos c, if_neg (by omega)]; exact Or.inl ⟨y, c, rfl, rfl, rfl⟩
    · rw [if_neg c, if_pos (by omega)]; exact Or.inr ⟨rfl, rfl⟩
theorem nI_nn {m : Nat} (hm : m < 2 ^ 31) : ¬ nI m < 0 := Int32.not_lt.mpr (show (0 : Int32) ≤ nI m from nI_le (a := 0) (Nat.zero_le m) hm)
theorem neg1 {t : Nat} (ht : t < 3) : ¬ nI t = (-1 : Int32) := by
  have : t = 0 ∨ t = 1 ∨ t = 2 := by omega
  rcases this with e | e | e <;> subst e <;> decide
theorem s_missing {csort csize cnum lsort lmany lnum : Nat → Int32} {y : Nat} (hy : y < 8) (h : lnY csort csize cnum lsort lmany lnum y) : f_Lines_isMissing (nI y) csort = some (bI (decide (lmany y < 0))) := by
  unfold f_Lines_isMissing
  rw [ev_grdN _ hy (by decide), nI_clamp (show y < 2 ^ 31 by omega)]
  rcases h with ⟨a, b⟩ | ⟨t, m, t3, m8, a, a2, a3, a4, -⟩
  · rw [if_pos a, decide_eq_true b]; rfl
  · rw [a, a4, if_neg (neg1 t3), decide_eq_false (show ¬ nI m < 0 from nI_nn (by omega))]; rfl
/-- the fault of a number: 0 and its place, or the same word -/
theorem numF {B : Bas} {csort csize cnum lsort lmany lnum : Nat → Int32} {v1 v2 : Int32} (h : basOk B) (hl : lnR B csort csize cnum lsort lmany lnum) :
    (∃ y i t m, y < bh B ∧ i < m ∧ m ≤ 8 ∧ t < 3 ∧ v1 = nI y ∧ v2 = nI i ∧ csort y = nI t ∧ lsort y = nI t ∧ csize y = nI m ∧ lmany y = nI m ∧ (∀ i, i < m → cnum (8 * y + i) = lnum (8 * y + i)) ∧ f_BargeBasin_faultOfNumber v1 v2 csort csize (nI (bw B)) (nI (bh B)) = some 0 ∧ f_BargeBasinModel_numbered v1 v2 1 (nI (bh B)) lmany = some 0) ∨
    (∃ r, 0 < r ∧ r < 10 ∧ f_BargeBasin_faultOfNumber v1 v2 csort csize (nI (bw B)) (nI (bh B)) = some (nI r) ∧ f_BargeBasinModel_numbered v1 v2 1 (nI (bh B)) lmany = some (nI r)) := by
  have h8 := h.2.2.2.1
  unfold f_BargeBasin_faultOfNumber f_BargeBasin_faultOfLine f_BargeBasinModel_numbered
  rw [ev_b _ (noBas h), if_pos rfl, if_neg (show ¬ (1 : Int32) = 0 by decide)]
  rcases lin (v1 := v1) h with ⟨y, hy, e, l1, l2⟩ | ⟨l1, l2⟩
  · subst e
    have y8 : y < 8 := by omega
    rw [ev_b _ l1, ev_b _ l2, if_pos rfl, if_neg (show ¬ (1 : Int32) = 0 by decide), ev_b _ (s_missing y8 (hl.1 y y8)), ev_grdN _ y8 (by decide), ev_grdN _ y8 (by decide), ev_grdN _ y8 (by decide), nI_clamp (show y < 2 ^ 31 by omega)]
    rcases hl.1 y y8 with ⟨a, b⟩ | ⟨t, m, t3, m8, a, a2, a3, a4, a5⟩
    · rw [decide_eq_true b, if_neg (show ¬ bI true = 0 by decide), if_neg (show ¬ 0 ≤ lmany y from fun z => absurd b (Int32.not_lt.mpr z))]
      exact Or.inr ⟨3, by decide, by decide, rfl, rfl⟩
    · rw [a3, a4, decide_eq_false (show ¬ nI m < 0 from nI_nn (by omega)), if_pos (show bI false = 0 by decide), if_pos (show (0 : Int32) ≤ nI m from nI_le (Nat.zero_le m) (by omega)), ev_b _ (rfl : some (0 : Int32) = some 0), if_pos rfl]
      by_cases c : v2 < 0
      · rw [if_pos c]; exact Or.inr ⟨4, by decide, by decide, rfl, rfl⟩
      · rw [if_neg c]
        obtain ⟨i, hi, e⟩ := nI_of (x := v2) c
        subst e
        have e1 : (nI i < nI m) = (i < m) := nI_ltE (by omega) (by omega)
        simp only [e1]
        by_cases q : i < m
        · rw [if_pos q]; exact Or.inl ⟨y, i, t, m, hy, q, m8, t3, rfl, rfl, a, a2, a3, a4, a5, rfl, rfl⟩
        · rw [if_neg q]; exact Or.inr ⟨4, by decide, by decide, rfl, rfl⟩
  · rw [ev_b _ l1, ev_b _ l2, if_pos rfl, if_neg (show ¬ (1 : Int32) = 0 by decide)]
    exact Or.inr ⟨2, by decide, by decide, rfl, rfl⟩
theorem eq_get {B : Bas} {csort csize cnum lsort lmany lnum : Nat → Int32} (h : basOk B) (hl : lnR B csort csize cnum lsort lmany lnum) (v1 v2 st st2 th : Int32) :
    ∃ ans st₉, f_BargeBasin_get v1 v2 st csort csize cnum (nI (bw B)) (nI (bh B)) = some (ans, st₉) ∧ f_BargeBasinModel_get v1 v2 st2 th 1 (nI (bh B)) lmany lnum = some (ans, st₉, 0) := by
  have h8 := h.2.2.2.1
  unfold f_BargeBasin_get f_BargeBasinModel_get
  rcases numF (v1 := v1) (v2 := v2) h hl with ⟨y, i, t, m, hy, hi, m8, t3, e1, e2, a1, a2, a3, a4, a5, f1, f2⟩ | ⟨r, r0, r1, f1, f2⟩
  · rw [ev_b _ f1, ev_b _ f2, if_pos rfl, if_pos (show (0 : Int32) ≤ 0 by decide), e1, e2]
    have e8 : (8 : Int32) * nI y + nI i = nI (8 * y + i) := by rw [i8, nI_add]
    have nm : f_Lines_number (nI y) (nI i) cnum = some (cnum (8 * y + i)) := by
      unfold f_Lines_number
      rw [e8, ev_grdN _ (show 8 * y + i < 64 by omega) (by decide), nI_clamp (by omega)]
    rw [ev_b _ nm, e8, ev_grdN _ (show 8 * y + i < 64 by omega) (by decide), nI_clamp (by omega), a5 i hi]
    exact ⟨_, _, rfl, rfl⟩
  · have e1 : (nI r = 0) = (r = 0) := nI_eqL (j := 0) (by omega) (by decide)
    have e2 : (nI r ≤ 0) = (r ≤ 0) := nI_leE (b := 0) (by omega) (by decide)
    rw [ev_b _ f1, ev_b _ f2]
    simp only [e1, e2]
    rw [if_neg (by omega), if_neg (by omega)]
    exact ⟨_, _, rfl, rfl⟩
end
section
/-! A row's walls, out of its line: reference and class. -/
theorem m_isWallAt {lm ln : Nat → Int32} {x y : Nat} (hx : x < 8) (hy : y < 8) : f_BargeBasinModel_isWallAt (nI x) (nI y) lm ln = some (bI (wlL lm ln y x)) := by
  have e : (8 : Int32) * nI y + nI x = nI (8 * y + x) := by rw [i8, nI_add]
  unfold f_BargeBasinModel_isWallAt wlL
  rw [ev_grdN _ hy (by decide), ev_grdN _ hy (by decide), e, ev_grdN _ (show 8 * y + x < 64 by omega) (by decide), nI_clamp (show y < 2 ^ 31 by omega), nI_clamp (show 8 * y + x < 2 ^ 31 by omega)]
  by_cases c1 : lm y < 0
  · rw [if_pos c1, if_pos c1]; rfl
  · rw [if_neg c1, if_neg c1]
    by_cases c2 : lm y ≤ nI x
    · rw [if_pos c2, if_pos c2]; rfl
    · rw [if_neg c2, if_neg c2]
      by_cases c3 : ln (8 * y + x) = 0
      · rw [if_pos c3, decide_eq_false (fun z => z c3)]; rfl
      · rw [if_neg c3, decide_eq_true c3]; rfl
theorem m_wallsL {lm ln : Nat → Int32} {y w : Nat} (hw : w ≤ 8) (hy : y < 8) : ∀ (d x n : Nat) (kw : Nat → Int32), x + d = w → d < n → f_BargeBasinModel_walls_L2 (nI y) (nI w) lm ln n (nI x) kw = some (fun f => if f / 8 = y ∧ x ≤ f % 8 ∧ f % 8 < w then bI (wlL lm ln y (f % 8)) else kw f) := by
  intro d
  induction d with
  | zero =>
    intro x n kw h hn
    obtain ⟨m, rfl⟩ : ∃ m, n = m + 1 := ⟨n - 1, by omega⟩
    have e : x = w := by omega
    subst e
    rw [f_BargeBasinModel_walls_L2, if_pos (nI_le (Nat.le_refl _) (by omega))]
    refine congrArg some (funext fun f => ?_)
    rw [if_neg (by omega)]
  | succ d ih =>
    intro x n kw h hn
    obtain ⟨m, rfl⟩ : ∃ m, n = m + 1 := ⟨n - 1, by omega⟩
    have e : nI x + (8 : Int32) * nI y = nI (x + 8 * y) := by rw [i8, nI_add]
    rw [f_BargeBasinModel_walls_L2, if_neg (nI_ge (show x < w by omega) (by omega)), ev_b _ (m_isWallAt (show x < 8 by omega) hy), e, ev_grdN _ (show x + 8 * y < 64 by omega) (by decide), ev_bnd, nI_1, nI_clamp (show x + 8 * y < 2 ^ 31 by omega), nar_bI, ih (x + 1) m _ (by omega) (by omega)]
    refine congrArg some (funext fun f => ?_)
    by_cases a : f = x + 8 * y
    · have e8 : f % 8 = x := by omega
      rw [if_neg (by omega), if_pos (by omega), a, pk_us, ← a, e8]
    · rw [pk_un a]
      by_cases c : f / 8 = y ∧ x + 1 ≤ f % 8 ∧ f % 8 < w
      · rw [if_pos c, if_pos (by omega)]
      · rw [if_neg c, if_neg (by omega)]
theorem m_walls {lm ln : Nat → Int32} {y w : Nat} (hw : w ≤ 8) (hy : y < 8) (kw : Nat → Int32) : f_BargeBasinModel_walls (nI y) (nI w) lm ln kw = some (fun f => if f / 8 = y ∧ 0 ≤ f % 8 ∧ f % 8 < w then bI (wlL lm ln y (f % 8)) else kw f) := by
  have e := m_wallsL (lm := lm) (ln := ln) hw hy w 0 jN kw (by omega) (by show w < 2000000; omega)
  unfold f_BargeBasinModel_walls
  rw [ev_b _ (show f_BargeBasinModel_walls_L2 (nI y) (nI w) lm ln jN 0 kw = _ from e)]
theorem m_underL {lm ln : Nat → Int32} {y w : Nat} {kwho : Nat → Int32} {wo : Nat → Option Nat} (hwo : ∀ f, f < 64 → kwho f = oI (wo f)) (ho : ∀ f c, wo f = some c → c < 12) (hw : w ≤ 8) (hy : y < 8) : ∀ (d x n : Nat), x + d = w → d < n → ∃ t : Bool, f_BargeBasinModel_isUnder_L6 (nI y) (nI w) lm ln kwho n (nI x) = some (if t then .inl () else .inr ()) ∧ (t = true ↔ ∃ u, x ≤ u ∧ u < w ∧ wlL lm ln y u = true ∧ wo (u + 8 * y) ≠ none) := by
  intro d
  induction d with
  | zero =>
    intro x n h hn
    obtain ⟨m, rfl⟩ : ∃ m, n = m + 1 := ⟨n - 1, by omega⟩
    have e : x = w := by omega
    subst e
    refine ⟨false, ?_, fun z => by (cases z), fun ⟨u, u1, u2, _⟩ => by omega⟩
    rw [f_BargeBasinModel_isUnder_L6, if_pos (nI_le (Nat.le_refl _) (by omega))]; rfl
  | succ d ih =>
    intro x n h hn
    obtain ⟨m, rfl⟩ : ∃ m, n = m + 1 := ⟨n - 1, by omega⟩
    have e : nI x + (8 : Int32) * nI y = nI (x + 8 * y) := by rw [i8, nI_add]
    obtain ⟨t, e1, q⟩ := ih (x + 1) m (by omega) (by omega)
    have neg := oI_neg (o := wo (x + 8 * y)) (fun c z => by have := ho _ _ z; omega)
    rw [f_BargeBasinModel_isUnder_L6, if_neg (nI_ge (show x < w by omega) (by omega)), ev_b _ (m_isWallAt (show x < 8 by omega) hy), e, ev_grdN _ (show x + 8 * y < 64 by omega) (by decide), nI_clamp (show x + 8 * y < 2 ^ 31 by omega), hwo _ (by omega)]
    simp only [ev_bnd, nI_1, neg]
    have rest : (∃ u, x + 1 ≤ u ∧ u < w ∧ wlL lm ln y u = true ∧ wo (u + 8 * y) ≠ none) → ∃ u, x ≤ u ∧ u < w ∧ wlL lm ln y u = true ∧ wo (u + 8 * y) ≠ none := fun ⟨u, u1, u2, u3⟩ => ⟨u, by omega, u2, u3⟩
    cases c : wlL lm ln y x with
    | false =>
      rw [if_pos (show bI false = 0 by decide)]
      refine ⟨t, e1, fun z => rest (q.mp z), fun ⟨u, u1, u2, u3, u4⟩ => q.mpr ⟨u, ?_, u2, u3, u4⟩⟩
      by_cases z : u = x
      · rw [z, c] at u3; cases u3
      · omega
    | true =>
      rw [if_neg (show ¬ bI true = 0 by decide)]
      by_cases v : wo (x + 8 * y) = none
      · rw [if_pos v]
        refine ⟨t, e1, fun z => rest (q.mp z), fun ⟨u, u1, u2, u3, u4⟩ => q.mpr ⟨u, ?_, u2, u3, u4⟩⟩
        by_cases z : u = x
        · rw [z] at u4; exact absurd v u4
        · omega
      · rw [if_neg v]
        exact ⟨true, rfl, fun _ => ⟨x, Nat.le_refl _, by omega, c, v⟩, fun _ => rfl⟩
theorem m_isUnder {B : Bas} {P : Nat → Nat} {lm ln kk kat ks ky : Nat → Int32} {y : Nat} (h : basOk B) (hi : insA B P) (hr : rfB B kk ks ky) (hp : chP B P kat) (hy : y < 8) (kwho khe : Nat → Int32) :
    ∃ (t : Bool) (kw₉ kh₉ : Nat → Int32), f_BargeBasinModel_isUnder (nI y) (nI (bw B)) (nI (bn B)) lm ln kk kat ks ky kwho khe = some (bI t, kw₉, kh₉) ∧ (t = true ↔ ∃ u, u < bw B ∧ wlL lm ln y u = true ∧ tkA B P (u + 8 * y) = true) := by
  have w8 := h.2.1
  have n12 := h.2.2.2.2.1
  obtain ⟨kw1, kh1, e1, o1, p1⟩ := m_layAllB h hi hr hp kwho khe
  obtain ⟨t, e2, q⟩ := m_underL (lm := lm) (ln := ln) o1 (fun f c e => by have := whoN_mem e; omega) w8 hy (bw B) 0 jN (by omega) (by show bw B < 2000000; omega)
  refine ⟨t, kw1, kh1, ?_, ?_⟩
  · unfold f_BargeBasinModel_isUnder
    rw [ev_b _ e1, un2_ap, ev_b _ (show f_BargeBasinModel_isUnder_L6 (nI y) (nI (bw B)) lm ln kw1 jN 0 = _ from e2)]
    cases t <;> rfl
  · rw [q]
    constructor
    · rintro ⟨u, -, u2, u3, u4⟩; exact ⟨u, u2, u3, who_tk.mp u4⟩
    · rintro ⟨u, u2, u3, u4⟩; exact ⟨u, Nat.zero_le _, u2, u3, who_tk.mpr u4⟩
/-! The class: a row's bits. -/
theorem tb_or32 (a b : Int32) (f : Nat) : tb (a ||| b).toInt64 f = (tb a.toInt64 f || tb b.toInt64 f) := by
  rw [← tb_or]
  congr 1
  exact Int32.toInt64_or a b
theorem tb_bit : ∀ x, x < 8 → ∀ f, f < 64 → tb (jishl 1 (nI x)).toInt64 f = decide (f = x) := by decide +kernel
theorem tb_255 : ∀ f, f < 64 → tb 255 f = decide (f < 8) := by decide +kernel
theorem tb_00 (f : Nat) : tb (0 : Int32).toInt64 f = false := tb_0 f
theorem s_bitsL {cs cn : Nat → Int32} {y w m : Nat} {g : Nat → Bool} (hw : w ≤ 8) (hy : y < 8) (hm : m ≤ 8) (hs : cs y = nI m) (hg : ∀ x, x < 8 → g x = if m ≤ x then true else decide (¬ cn (8 * y + x) = 0)) : ∀ (d x n : Nat) (v : Int32), x + d = w → d < n → (∀ f, f < 64 → tb v.toInt64 f = (decide (f < x) && g f)) → ∃ r : Int32, f_Lines_wallBits_L15 (nI y) (nI w) cs cn n v (nI x) = some r ∧ ∀ f, f < 64 → tb r.toInt64 f = (decide (f < w) && g f) := by
  intro d
  induction d with
  | zero =>
    intro x n v h hn hv
    obtain ⟨k, rfl⟩ : ∃ m, n = m + 1 := ⟨n - 1, by omega⟩
    have e : x = w := by omega
    subst e
    refine ⟨v, ?_, hv⟩
    rw [f_Lines_wallBits_L15, if_pos (nI_le (Nat.le_refl _) (by omega))]
  | succ d ih =>
    intro x n v h hn hv
    obtain ⟨k, rfl⟩ : ∃ m, n = m + 1 := ⟨n - 1, by omega⟩
    have x8 : x < 8 := by omega
    have e : (8 : Int32) * nI y + nI x = nI (8 * y + x) := by rw [i8, nI_add]
    have nm : f_Lines_number (nI y) (nI x) cn = some (cn (8 * y + x)) := by
      unfold f_Lines_number
      rw [e, ev_grdN _ (show 8 * y + x < 64 by omega) (by decide), nI_clamp (by omega)]
    have el : (nI m ≤ nI x) = (m ≤ x) := nI_leE (by omega) (by omega)
    rw [f_Lines_wallBits_L15, if_neg (nI_ge (show x < w by omega) (by omega)), ev_grdN _ hy (by decide), nI_clamp (show y < 2 ^ 31 by omega), hs]
    simp only [el, ev_bnd, nI_1]
    have gx := hg x x8
    have up : g x = true → ∀ f, f < 64 → tb (v ||| jishl 1 (nI x)).toInt64 f = (decide (f < x + 1) && g f) := by
      intro gt f hf
      rw [tb_or32, hv f hf, tb_bit x x8 f hf]
      by_cases z : f = x
      · rw [z, gt, decide_eq_true (rfl : x = x), decide_eq_true (show x < x + 1 by omega)]; simp
      · rw [decide_eq_false z, Bool.or_false, show decide (f < x + 1) = decide (f < x) from decide_eq_decide.mpr (by omega)]
    by_cases c : m ≤ x
    · rw [if_pos c] at gx ⊢
      exact ih (x + 1) k _ (by omega) (by omega) (up gx)
    · rw [if_neg c] at gx ⊢
      rw [ev_b _ nm]
      by_cases q : cn (8 * y + x) = 0
      · rw [if_pos q]
        refine ih (x + 1) k _ (by omega) (by omega) (fun f hf => ?_)
        rw [hv f hf]
        by_cases z : f = x
        · rw [z, gx, decide_eq_false (show ¬ ¬ cn (8 * y + x) = 0 from fun u => u q), Bool.and_false, Bool.and_false]
        · rw [show decide (f < x + 1) = decide (f < x) from decide_eq_decide.mpr (by omega)]
      · rw [if_neg q]
        exact ih (x + 1) k _ (by omega) (by omega) (up (by rw [gx, decide_eq_true q]))
theorem s_wallBits {csort csize cnum lsort lmany lnum : Nat → Int32} {y w : Nat} (hw : w ≤ 8) (hy : y < 8) (hl : lnY csort csize cnum lsort lmany lnum y) : ∃ r : Int32, f_Lines_wallBits (nI y) (nI w) csort csize cnum = some r ∧ ∀ f, f < 64 → tb r.toInt64 f = (decide (f < w) && wlL lmany lnum y f) := by
  unfold f_Lines_wallBits
  rw [ev_b _ (s_missing hy hl)]
  rcases hl with ⟨a, b⟩ | ⟨t, m, t3, m8, a, a2, a3, a4, a5⟩
  · rw [decide_eq_true b, if_neg (show ¬ bI true = 0 by decide)]
    refine ⟨0, rfl, fun f hf => ?_⟩
    rw [tb_00]
    unfold wlL
    rw [if_pos b, Bool.and_false]
  · have nn : ¬ lmany y < 0 := by rw [a4]; exact nI_nn (by omega)
    rw [decide_eq_false nn, if_pos (show bI false = 0 by decide)]
    obtain ⟨r, e, q⟩ := s_bitsL (cn := cnum) (g := wlL lmany lnum y) hw hy m8 a3 (fun x hx => by
      unfold wlL
      have el : (nI m ≤ nI x) = (m ≤ x) := nI_leE (by omega) (by omega)
      rw [if_neg nn, a4]
      simp only [el]
      by_cases c : m ≤ x
      · rw [if_pos c, if_pos c]
      · rw [if_neg c, if_neg c, a5 x (by omega)]) w 0 jN 0 (by omega) (by show w < 2000000; omega) (fun f hf => by rw [tb_00, decide_eq_false (by omega), Bool.false_and])
    exact ⟨r, by rw [ev_b _ (show f_Lines_wallBits_L15 (nI y) (nI w) csize cnum jN 0 0 = _ from e)], q⟩
/-- the basin with row y's walls told anew -/
def rowB (B : Bas) (y : Nat) (g : Nat → Bool) : Bas := (bw B, bh B, bn B, bK B, bS B, bY B, bG B, fun f => if f / 8 = y then decide (f % 8 < bw B) && g (f % 8) else bwl B f)
theorem s_wallRow {B : Bas} {y : Nat} {g : Nat → Bool} {r : Int32} {kwl : Int64} (h : basOk B) (hy : y < 8) (hw : chW B kwl) (hr : ∀ f, f < 64 → tb r.toInt64 f = (decide (f < bw B) && g f)) : ∃ kwl₉, f_Chart_wallRow (nI y) r kwl = some kwl₉ ∧ chW (rowB B y g) kwl₉ := by
  have w8 := h.2.1
  refine ⟨_, rfl, fun f hf => ?_⟩
  show _ = (if f / 8 = y then decide (f % 8 < bw B) && g (f % 8) else bwl B f)
  rw [i8, tb_or, tb_and, tb_not hf, tb_shl (by omega), tb_shl (by omega), tb_255 _ (by omega), hr _ (show f - 8 * y < 64 by omega), hw f hf, decide_eq_true hf, Bool.true_and]
  by_cases c : f / 8 = y
  · have e : f - 8 * y = f % 8 := by omega
    rw [if_pos c, e, decide_eq_false (show ¬ f < 8 * y by omega), decide_eq_true (show f % 8 < 8 by omega)]
    simp
  · rw [if_neg c]
    by_cases q : f < 8 * y
    · rw [decide_eq_true q]; simp
    · rw [decide_eq_false q, decide_eq_false (show ¬ f - 8 * y < 8 by omega), decide_eq_false (show ¬ f - 8 * y < bw B by omega)]; simp
theorem rowB_bas {B : Bas} {y : Nat} {g : Nat → Bool} (h : basOk B) : basOk (rowB B y g) := h
theorem rowB_st {B : Bas} {P : Nat → Nat} {y : Nat} {g : Nat → Bool} (h : stC B P) (hg : ∀ x, x < bw B → g x = true → tkA B P (x + 8 * y) = false) : stC (rowB B y g) P := by
  obtain ⟨⟨i, a, n⟩, c⟩ := h
  refine ⟨⟨i, a, fun b f hb hf q => ?_⟩, c⟩
  have q₉ : fbA B P b f = true := q
  have hb₉ : b < bn B := hb
  show (if f / 8 = y then decide (f % 8 < bw B) && g (f % 8) else bwl B f) = false
  by_cases z : f / 8 = y
  · rw [if_pos z]
    by_cases w : f % 8 < bw B
    · rw [decide_eq_true w, Bool.true_and, ← Bool.not_eq_true]
      intro gt
      have := hg _ w gt
      rw [show f % 8 + 8 * y = f by omega] at this
      have t : tkA B P f = true := List.any_eq_true.mpr ⟨b, List.mem_range.mpr hb₉, q₉⟩
      rw [t] at this; cases this
    · rw [decide_eq_false w, Bool.false_and]
  · rw [if_neg z]; exact n b f hb₉ hf q₉
theorem rowB_rf {B : Bas} {P : Nat → Nat} {y : Nat} {lm ln : Nat → Int32} {khas kw kh kn : Int32} {kwl kk kat ks ky kg : Nat → Int32} (hr : rfX B P khas kw kh kn kwl kk kat ks ky kg) (hin : ∀ f, f < 64 → (bw B ≤ f % 8 ∨ bh B ≤ f / 8) → bwl B f = false) :
    rfX (rowB B y (wlL lm ln y)) P khas kw kh kn (fun f => if f / 8 = y ∧ 0 ≤ f % 8 ∧ f % 8 < bw B then bI (wlL lm ln y (f % 8)) else kwl f) kk kat ks ky kg := by
  obtain ⟨r1, r2, r3, r4, r5, r6, r7, r8⟩ := hr
  refine ⟨r1, r2, r3, r4, fun f hf => ?_, r6, r7, r8⟩
  show (if f / 8 = y ∧ 0 ≤ f % 8 ∧ f % 8 < bw B then bI (wlL lm ln y (f % 8)) else kwl f) = bI (if f / 8 = y then decide (f % 8 < bw B) && wlL lm ln y (f % 8) else bwl B f)
  by_cases z : f / 8 = y
  · rw [if_pos z]
    by_cases w : f % 8 < bw B
    · rw [if_pos ⟨z, Nat.zero_le _, w⟩, decide_eq_true w, Bool.true_and]
    · rw [if_neg (fun q => w q.2.2), decide_eq_false w, Bool.false_and, r5 f hf, hin f hf (Or.inl (by omega))]
  · rw [if_neg z, if_neg (fun q => z q.1), r5 f hf]
/-- lines and walls of the other rows stay, row y's are told anew -/
theorem rowB_ln {B : Bas} {y : Nat} {cs cz cn ls lm ln cs₉ cz₉ cn₉ ls₉ lm₉ ln₉ : Nat → Int32} (hl : lnR B cs cz cn ls lm ln) (hy : y < bh B) (h8 : bh B ≤ 8) (hw : bw B ≤ 8) (e1 : ∀ z, z ≠ y → cs₉ z = cs z ∧ cz₉ z = cz z ∧ ls₉ z = ls z ∧ lm₉ z = lm z) (e2 : ∀ f, f / 8 ≠ y → cn₉ f = cn f ∧ ln₉ f = ln f) (ey : lnY cs₉ cz₉ cn₉ ls₉ lm₉ ln₉ y) : lnR (rowB B y (wlL lm₉ ln₉ y)) cs₉ cz₉ cn₉ ls₉ lm₉ ln₉ := by
  obtain ⟨l1, l2, l3, l4⟩ := hl
  refine ⟨fun z hz => ?_, fun z x hz hx => ?_, fun f hf q => ?_, fun z h1 h2 => by have h1₉ : bh B ≤ z := h1; rw [(e1 z (by omega)).2.2.2]; exact l4 z h1₉ h2⟩
  · by_cases e : z = y
    · rw [e]; exact ey
    · obtain ⟨a1, a2, a3, a4⟩ := e1 z e
      rcases l1 z hz with ⟨b1, b2⟩ | ⟨t, m, t3, m8, b1, b2, b3, b4, b5⟩
      · exact Or.inl ⟨by rw [a1]; exact b1, by rw [a4]; exact b2⟩
      · refine Or.inr ⟨t, m, t3, m8, by rw [a1]; exact b1, by rw [a3]; exact b2, by rw [a2]; exact b3, by rw [a4]; exact b4, fun i hi => ?_⟩
        obtain ⟨c1, c2⟩ := e2 (8 * z + i) (by omega)
        rw [c1, c2]; exact b5 i hi
  · have hz₉ : z < bh B := hz
    have hx₉ : x < bw B := hx
    show (if (x + 8 * z) / 8 = y then decide ((x + 8 * z) % 8 < bw B) && wlL lm₉ ln₉ y ((x + 8 * z) % 8) else bwl B (x + 8 * z)) = _
    rw [show (x + 8 * z) / 8 = z by omega, show (x + 8 * z) % 8 = x by omega]
    by_cases e : z = y
    · rw [if_pos e, decide_eq_true hx₉, Bool.true_and, e]
    · rw [if_neg e, l2 z x hz₉ hx₉]
      unfold wlL
      rw [(e1 z e).2.2.2, (e2 (8 * z + x) (by omega)).2]
  · have q₉ : bw B ≤ f % 8 ∨ bh B ≤ f / 8 := q
    show (if f / 8 = y then decide (f % 8 < bw B) && wlL lm₉ ln₉ y (f % 8) else bwl B f) = false
    by_cases e : f / 8 = y
    · rw [if_pos e, decide_eq_false (show ¬ f % 8 < bw B by omega), Bool.false_and]
    · rw [if_neg e]; exact l3 f hf q₉
theorem s_linesChanged {B : Bas} {P : Nat → Nat} {cn : Int32} {cwl ct : Int64} {ck cp cl cg ca cwd chg : Nat → Int32} {cs : Nat → Int64} {csort csize cnum lsort lmany lnum : Nat → Int32} {y : Nat} {st ld lu : Int32} (h : basOk B) (hy : y < 8) (hc : chX B P (nI (bw B)) (nI (bh B)) cn cwl ct ck cp cl cg ca cwd chg cs) (hl : lnY csort csize cnum lsort lmany lnum y) :
    ∃ cwl₉, f_BargeBasin_linesChanged (nI y) st csort csize cnum (nI (bw B)) cwl ld lu = some (1, 0, cwl₉, 0, 0) ∧ chX (rowB B y (wlL lmany lnum y)) P (nI (bw B)) (nI (bh B)) cn cwl₉ ct ck cp cl cg ca cwd chg cs := by
  obtain ⟨c1, c2, c3, c4, c5, c6, c7, c8, c9⟩ := hc
  obtain ⟨r, e1, q1⟩ := s_wallBits h.2.1 hy hl
  obtain ⟨cwl₉, e2, q2⟩ := s_wallRow h hy c4 q1
  refine ⟨cwl₉, ?_, c1, c2, c3, q2, c5, c6, c7, c8, c9⟩
  unfold f_BargeBasin_linesChanged
  rw [ev_b _ e1, ev_b _ e2]; rfl
/-! tear -/
theorem eq_tear {B : Bas} {P : Nat → Nat} {cw chh cn : Int32} {cwl ct : Int64} {ck cp cl cg ca cwd chg : Nat → Int32} {cs : Nat → Int64} {khas kw kh kn : Int32} {kwl kk kat ks ky kg : Nat → Int32} {lf ld lu um rm : Int32} {lm ub uf ut rb rf rt : Nat → Int32} {csort csize cnum lsort lmany lnum : Nat → Int32} (h : basOk B) (hP : stC B P) (hc : chX B P cw chh cn cwl ct ck cp cl cg ca cwd chg cs) (hr : rfX B P khas kw kh kn kwl kk kat ks ky kg) (hl : lgR B P lf ld lu lm um rm ub uf ut rb rf rt) (hn : lnR B csort csize cnum lsort lmany lnum) (v1 st st2 th : Int32) :
    ∃ (ans st₉ : Int32) (csort₉ : Nat → Int32) (cwl₉ : Int64) (ld₉ lu₉ um₉ rm₉ : Int32) (lmany₉ kwl₉ : Nat → Int32) (B₉ : Bas), f_BargeBasin_tear v1 st csort csize cnum cw chh cwl ld lu = some (ans, st₉, csort₉, cwl₉, ld₉, lu₉) ∧
      f_BargeBasinModel_tear v1 st2 th khas kw kh um rm lmany lnum kwl = some (ans, st₉, 0, um₉, rm₉, lmany₉, kwl₉) ∧
      (B₉ = B ∨ ∃ y g, B₉ = rowB B y g) ∧ basOk B₉ ∧ stC B₉ P ∧ chX B₉ P cw chh cn cwl₉ ct ck cp cl cg ca cwd chg cs ∧ rfX B₉ P khas kw kh kn kwl₉ kk kat ks ky kg ∧ lgR B₉ P lf ld₉ lu₉ lm um₉ rm₉ ub uf ut rb rf rt ∧ lnR B₉ csort₉ csize cnum lsort lmany₉ lnum := by
  have h8 := h.2.2.2.1
  have hc0 := hc
  have hr0 := hr
  obtain ⟨c1, c2, c3, c4, c5, c6, c7, c8, c9⟩ := hc
  obtain ⟨r1, r2, r3, r4, r5, r6, r7, r8⟩ := hr
  subst c1; subst c2; subst r1; subst r2; subst r3
  unfold f_BargeBasin_tear f_BargeBasin_faultOfLine f_BargeBasinModel_tear
  rw [ev_b _ (noBas h), if_pos rfl, if_neg (show ¬ (1 : Int32) = 0 by decide)]
  rcases lin (v1 := v1) h with ⟨y, hy, e, l1, l2⟩ | ⟨l1, l2⟩
  · subst e
    have y8 : y < 8 := by omega
    rw [ev_b _ l1, ev_b _ l2, if_pos rfl, if_neg (show ¬ (1 : Int32) = 0 by decide), ev_b _ (s_missing y8 (hn.1 y y8)), ev_grdN _ y8 (by decide), ev_grdN _ y8 (by decide), nI_clamp (show y < 2 ^ 31 by omega)]
    by_cases mi : lmany y < 0
    · rw [decide_eq_true mi, if_neg (show ¬ bI true = 0 by decide), if_neg (show ¬ 0 ≤ lmany y from fun z => absurd mi (Int32.not_lt.mpr z))]
      exact ⟨0, 3, csort, cwl, ld, lu, um, rm, lmany, kwl, B, rfl, rfl, Or.inl rfl, h, hP, hc0, hr0, hl, hn⟩
    · have ey : lnY (upd csort y (-1)) csize cnum lsort (upd lmany y (-1)) lnum y := Or.inl ⟨pk_us, by rw [pk_us]; decide⟩
      obtain ⟨cwl₉, e1, x1⟩ := s_linesChanged (st := st) (ld := ld) (lu := lu) h y8 hc0 ey
      have t : f_Lines_tearOff (nI y) csort = some (upd csort y (-1)) := by
        unfold f_Lines_tearOff
        rw [ev_grdN _ y8 (by decide), nI_clamp (show y < 2 ^ 31 by omega)]
      have st1 : stC (rowB B y (wlL (upd lmany y (-1)) lnum y)) P := rowB_st hP (fun x hx g => by
        unfold wlL at g
        rw [pk_us, if_pos (by decide)] at g; cases g)
      rw [decide_eq_false mi, if_pos (show bI false = 0 by decide), if_pos (show 0 ≤ lmany y from Int32.not_lt.mp mi), ev_b _ (rfl : some (0 : Int32) = some 0), if_pos rfl, ev_b _ t, ev_b _ e1, ev_b _ (m_walls h.2.1 y8 kwl)]
      exact ⟨1, 0, upd csort y (-1), cwl₉, 0, 0, 0, 0, upd lmany y (-1), _, rowB B y (wlL (upd lmany y (-1)) lnum y), rfl, rfl, Or.inr ⟨_, _, rfl⟩, rowB_bas h, st1, x1, rowB_rf hr0 hn.2.2.1, lgR_forget hl st1, rowB_ln hn hy h8 h.2.1 (fun z hz => ⟨pk_un hz, rfl, rfl, pk_un hz⟩) (fun f hf => ⟨rfl, rfl⟩) ey⟩
  · rw [ev_b _ l1, ev_b _ l2, if_pos rfl, if_neg (show ¬ (1 : Int32) = 0 by decide)]
    exact ⟨0, 2, csort, cwl, ld, lu, um, rm, lmany, kwl, B, rfl, rfl, Or.inl rfl, h, hP, hc0, hr0, hl, hn⟩
end
section
/-! set and line of both sides. -/
theorem m_keepL {y : Nat} {num : Nat → Int32} (hy : y < 8) : ∀ (d i n : Nat) (old : Nat → Int32), i + d = 8 → d < n → f_BargeBasinModel_keepLine_L2 (nI y) num n (nI i) old = some (fun j => if i ≤ j ∧ j < 8 then num (8 * y + j) else old j) := by
  intro d
  induction d with
  | zero =>
    intro i n old h hn
    obtain ⟨m, rfl⟩ : ∃ m, n = m + 1 := ⟨n - 1, by omega⟩
    have e : i = 8 := by omega
    subst e
    rw [f_BargeBasinModel_keepLine_L2, if_pos (show (8 : Int32) ≤ nI 8 by decide)]
    refine congrArg some (funext fun f => ?_)
    rw [if_neg (by omega)]
  | succ d ih =>
    intro i n old h hn
    obtain ⟨m, rfl⟩ : ∃ m, n = m + 1 := ⟨n - 1, by omega⟩
    have e : (8 : Int32) * nI y + nI i = nI (8 * y + i) := by rw [i8, nI_add]
    rw [f_BargeBasinModel_keepLine_L2, if_neg (show ¬ (8 : Int32) ≤ nI i from nI_ge (b := 8) (show i < 8 by omega) (by decide)), e, ev_grdN _ (show 8 * y + i < 64 by omega) (by decide), ev_bnd, ev_grdN _ (show i < 8 by omega) (by decide), ev_bnd, nI_1, nI_clamp (show i < 2 ^ 31 by omega), nI_clamp (show 8 * y + i < 2 ^ 31 by omega), ih (i + 1) m _ (by omega) (by omega)]
    refine congrArg some (funext fun f => ?_)
    by_cases a : f = i
    · subst a
      rw [if_neg (by omega), if_pos (by omega), pk_us]
    · rw [pk_un a]
      by_cases c : i + 1 ≤ f ∧ f < 8
      · rw [if_pos c, if_pos (by omega)]
      · rw [if_neg c, if_neg (by omega)]
theorem m_keepLine {y : Nat} (hy : y < 8) (num old : Nat → Int32) : f_BargeBasinModel_keepLine (nI y) num old = some (fun j => if 0 ≤ j ∧ j < 8 then num (8 * y + j) else old j) := by
  have e := m_keepL (num := num) hy 8 0 jN old (by omega) (by show 8 < 2000000; omega)
  unfold f_BargeBasinModel_keepLine
  rw [ev_b _ (show f_BargeBasinModel_keepLine_L2 (nI y) num jN 0 old = _ from e)]
theorem m_backL {y : Nat} {old : Nat → Int32} (hy : y < 8) : ∀ (d i n : Nat) (num : Nat → Int32), i + d = 8 → d < n → f_BargeBasinModel_backLine_L2 (nI y) old n (nI i) num = some (fun f => if f / 8 = y ∧ i ≤ f % 8 then old (f % 8) else num f) := by
  intro d
  induction d with
  | zero =>
    intro i n num h hn
    obtain ⟨m, rfl⟩ : ∃ m, n = m + 1 := ⟨n - 1, by omega⟩
    have e : i = 8 := by omega
    subst e
    rw [f_BargeBasinModel_backLine_L2, if_pos (show (8 : Int32) ≤ nI 8 by decide)]
    refine congrArg some (funext fun f => ?_)
    rw [if_neg (by omega)]
  | succ d ih =>
    intro i n num h hn
    obtain ⟨m, rfl⟩ : ∃ m, n = m + 1 := ⟨n - 1, by omega⟩
    have e : (8 : Int32) * nI y + nI i = nI (8 * y + i) := by rw [i8, nI_add]
    rw [f_BargeBasinModel_backLine_L2, if_neg (show ¬ (8 : Int32) ≤ nI i from nI_ge (b := 8) (show i < 8 by omega) (by decide)), e, ev_grdN _ (show i < 8 by omega) (by decide), ev_bnd, ev_grdN _ (show 8 * y + i < 64 by omega) (by decide), ev_bnd, nI_1, nI_clamp (show i < 2 ^ 31 by omega), nI_clamp (show 8 * y + i < 2 ^ 31 by omega), ih (i + 1) m _ (by omega) (by omega)]
    refine congrArg some (funext fun f => ?_)
    by_cases a : f = 8 * y + i
    · have e8 : f % 8 = i := by omega
      rw [if_neg (by omega), if_pos (by omega), e8, a, pk_us]
    · rw [pk_un a]
      by_cases c : f / 8 = y ∧ i + 1 ≤ f % 8
      · rw [if_pos c, if_pos (by omega)]
      · rw [if_neg c, if_neg (by omega)]
/-- keeping a row and laying it back undoes what was done in the row -/
theorem m_backLine {y : Nat} (hy : y < 8) (num num₉ old : Nat → Int32) (e : ∀ f, f / 8 ≠ y → num₉ f = num f) : f_BargeBasinModel_backLine (nI y) num₉ (fun j => if 0 ≤ j ∧ j < 8 then num (8 * y + j) else old j) = some num := by
  have e1 := m_backL (old := fun j => if 0 ≤ j ∧ j < 8 then num (8 * y + j) else old j) hy 8 0 jN num₉ (by omega) (by show 8 < 2000000; omega)
  unfold f_BargeBasinModel_backLine
  rw [ev_b _ (show f_BargeBasinModel_backLine_L2 (nI y) _ jN 0 num₉ = _ from e1)]
  refine congrArg some (funext fun f => ?_)
  by_cases c : f / 8 = y
  · rw [if_pos ⟨c, Nat.zero_le _⟩, if_pos ⟨Nat.zero_le _, Nat.mod_lt _ (by decide)⟩, show 8 * y + f % 8 = f by omega]
  · rw [if_neg (fun q => c q.1), e f c]
theorem s_isTaken {B : Bas} {P : Nat → Nat} {x y : Nat} {kt : Int64} (h : basOk B) (ht : chT B P kt) (hx : x < 8) (hy : y < 8) : f_Chart_isTaken (nI x) (nI y) (nI (bw B)) kt = some (bI (decide (x < bw B) && tkA B P (x + 8 * y))) := by
  have w8 := h.2.1
  have e : (8 : Int32) * nI y + nI x = nI (x + 8 * y) := by rw [i8, nI_add, Nat.add_comm]
  unfold f_Chart_isTaken
  rw [e]
  simp only [cmp0, and0, nI_leE (show bw B < 2 ^ 31 by omega) (show x < 2 ^ 31 by omega)]
  have a : anyF (fun f => tb (jlushr kt (nI (x + 8 * y))) f && tb 1 f) = tkA B P (x + 8 * y) := by
    rw [← ht _ (show x + 8 * y < 64 by omega), Bool.eq_iff_iff, anyF_t]
    constructor
    · rintro ⟨f, hf, q⟩
      rw [Bool.and_eq_true, tb_shr (by omega), tb_1, decide_eq_true_eq] at q
      rw [q.2, Nat.add_zero] at q
      exact q.1
    · intro q
      exact ⟨0, by decide, by rw [tb_shr (by omega), tb_1, Nat.add_zero, q]; rfl⟩
  rw [a]
  by_cases c : bw B ≤ x
  · rw [if_pos c, decide_eq_false (by omega)]; rfl
  · rw [if_neg c, decide_eq_true (by omega), Bool.true_and]
    cases tkA B P (x + 8 * y) <;> rfl
/-- no wall lies under a barge -/
theorem tk_nw {B : Bas} {P : Nat → Nat} {f : Nat} (hP : stC B P) (hf : f < 64) (t : tkA B P f = true) : bwl B f = false := by
  obtain ⟨b, hb, q⟩ := List.any_eq_true.mp t
  exact hP.1.2.2 b f (List.mem_range.mp hb) hf q
theorem cutE {csort lsort : Nat → Int32} {y t : Nat} (hy : y < 8) (a : csort y = nI t) (b : lsort y = nI t) (v : Int32) : ∃ r, f_Lines_cut (nI y) v csort = some r ∧ f_BargeBasinModel_cutTo (lsort y) v = some r := by
  unfold f_Lines_cut f_BargeBasinModel_cutTo
  rw [ev_grdN _ hy (by decide), nI_clamp (show y < 2 ^ 31 by omega), a, b, ev_bnd]
  by_cases c0 : nI t = 0
  · rw [if_pos c0]; exact ⟨_, rfl, rfl⟩
  · rw [if_neg c0]
    by_cases c1 : nI t = 1
    · rw [if_pos c1]; exact ⟨_, rfl, rfl⟩
    · rw [if_neg c1]; exact ⟨_, rfl, rfl⟩
theorem eq_set {B : Bas} {P : Nat → Nat} {cw chh cn : Int32} {cwl ct : Int64} {ck cp cl cg ca cwd chg : Nat → Int32} {cs : Nat → Int64} {khas kw kh kn : Int32} {kwl kk kat ks ky kg : Nat → Int32} {lf ld lu um rm : Int32} {lm ub uf ut rb rf rt : Nat → Int32} {csort csize cnum lsort lmany lnum : Nat → Int32} (h : basOk B) (hP : stC B P) (hc : chX B P cw chh cn cwl ct ck cp cl cg ca cwd chg cs) (hr : rfX B P khas kw kh kn kwl kk kat ks ky kg) (hl : lgR B P lf ld lu lm um rm ub uf ut rb rf rt) (hn : lnR B csort csize cnum lsort lmany lnum) (v1 v2 v3 st st2 th : Int32) (kwho khe old : Nat → Int32) :
    ∃ (ans st₉ : Int32) (cnum₉ : Nat → Int32) (cwl₉ : Int64) (ld₉ lu₉ um₉ rm₉ : Int32) (lnum₉ kwl₉ kwho₉ khe₉ old₉ : Nat → Int32) (B₉ : Bas), f_BargeBasin_set v1 v2 v3 st csort csize cnum cw chh cwl ct ld lu = some (ans, st₉, cnum₉, cwl₉, ld₉, lu₉) ∧
      f_BargeBasinModel_set v1 v2 v3 st2 th khas kw kh kn um rm lsort lmany lnum kwl kk kat ks ky kwho khe old = some (ans, st₉, 0, um₉, rm₉, lnum₉, kwl₉, kwho₉, khe₉, old₉) ∧
      (B₉ = B ∨ ∃ y g, B₉ = rowB B y g) ∧ basOk B₉ ∧ stC B₉ P ∧ chX B₉ P cw chh cn cwl₉ ct ck cp cl cg ca cwd chg cs ∧ rfX B₉ P khas kw kh kn kwl₉ kk kat ks ky kg ∧ lgR B₉ P lf ld₉ lu₉ lm um₉ rm₉ ub uf ut rb rf rt ∧ lnR B₉ csort csize cnum₉ lsort lmany lnum₉ := by
  have h8 := h.2.2.2.1
  have w8 := h.2.1
  have hc0 := hc
  have hr0 := hr
  obtain ⟨c1, c2, c3, c4, c5, c6, c7, c8, c9⟩ := hc
  obtain ⟨r1, r2, r3, r4, r5, r6, r7, r8⟩ := hr
  subst c1; subst c2; subst r1; subst r2; subst r3; subst r4
  unfold f_BargeBasin_set f_BargeBasinModel_set
  rcases numF (v1 := v1) (v2 := v2) h hn with ⟨y, i, t, m, hy, hi, m8, t3, e1, e2, a1, a2, a3, a4, a5, f1, f2⟩ | ⟨r, r0, r1, f1, f2⟩
  · have y8 : y < 8 := by omega
    have i8₉ : i < 8 := by omega
    rw [ev_b _ f1, ev_b _ f2, if_pos rfl, if_pos (show (0 : Int32) ≤ 0 by decide), e1, e2]
    obtain ⟨r, g1, g2⟩ := cutE y8 a1 a2 v3
    have e8 : (8 : Int32) * nI y + nI i = nI (8 * y + i) := by rw [i8, nI_add]
    have o1 : ∀ f, f / 8 ≠ y → upd cnum (8 * y + i) r f = cnum f ∧ upd lnum (8 * y + i) r f = lnum f := fun f hf => by
      have : f ≠ 8 * y + i := by omega
      rw [pk_un this, pk_un this]; exact ⟨rfl, rfl⟩
    have ey : lnY csort csize (upd cnum (8 * y + i) r) lsort lmany (upd lnum (8 * y + i) r) y := Or.inr ⟨t, m, t3, m8, a1, a2, a3, a4, fun j hj => by
      by_cases z : j = i
      · rw [z, pk_us, pk_us]
      · rw [pk_un (show 8 * y + j ≠ 8 * y + i by omega), pk_un (show 8 * y + j ≠ 8 * y + i by omega)]; exact a5 j hj⟩
    obtain ⟨cwl₉, l1, x1⟩ := s_linesChanged (st := st) (ld := ld) (lu := lu) h y8 hc0 ey
    obtain ⟨u, kw1, kh1, u1, u2⟩ := m_isUnder (lm := lmany) (ln := upd lnum (8 * y + i) r) h hP.1.1 r6 r7 y8 kwho khe
    have nn : ¬ lmany y < 0 := by rw [a4]; exact nI_nn (by omega)
    have wi : wlL lmany (upd lnum (8 * y + i) r) y i = decide (¬ r = 0) := by
      unfold wlL
      rw [if_neg nn, a4, if_neg (show ¬ nI m ≤ nI i from nI_ge hi (by omega)), pk_us]
    have wo : ∀ x, x ≠ i → wlL lmany (upd lnum (8 * y + i) r) y x = wlL lmany lnum y x := fun x hx => by
      unfold wlL
      rw [pk_un (show 8 * y + x ≠ 8 * y + i by omega)]
    have ue : u = (decide (¬ r = 0) && (decide (i < bw B) && tkA B P (i + 8 * y))) := by
      rw [Bool.eq_iff_iff, u2, Bool.and_eq_true, Bool.and_eq_true, decide_eq_true_eq, decide_eq_true_eq]
      constructor
      · rintro ⟨x, q1, q2, q3⟩
        by_cases z : x = i
        · rw [z, wi, decide_eq_true_eq] at q2
          rw [z] at q1 q3
          exact ⟨q2, q1, q3⟩
        · rw [wo x z, ← hn.2.1 y x hy q1, tk_nw hP (by omega) q3] at q2; cases q2
      · rintro ⟨q1, q2, q3⟩
        exact ⟨i, q2, by rw [wi, decide_eq_true q1], q3⟩
    have wr : f_Lines_write (nI y) (nI i) r cnum = some (upd cnum (8 * y + i) r) := by
      unfold f_Lines_write
      rw [e8, ev_grdN _ (show 8 * y + i < 64 by omega) (by decide), nI_clamp (by omega)]
    have J : f_BargeBasin_set_J55 (nI y) (nI i) r st csort csize cnum (nI (bw B)) cwl ld lu = some (1, 0, upd cnum (8 * y + i) r, cwl₉, 0, 0) := by
      unfold f_BargeBasin_set_J55
      rw [ev_b _ wr, ev_b _ l1]; rfl
    have ok : u = false → stC (rowB B y (wlL lmany (upd lnum (8 * y + i) r) y)) P := fun uf => rowB_st hP (fun x hx g => by
      rw [← Bool.not_eq_true]
      intro tk
      have := u2.mpr ⟨x, hx, g, tk⟩
      rw [uf] at this; cases this)
    rw [ev_b _ g1, ev_b _ (m_keepLine y8 lnum old), ev_grdN _ y8 (by decide), nI_clamp (show y < 2 ^ 31 by omega), ev_b _ g2, e8, ev_grdN _ (show 8 * y + i < 64 by omega) (by decide), nI_clamp (show 8 * y + i < 2 ^ 31 by omega), ev_b _ u1, un3_ap, J, ev_b _ (s_isTaken h c5 i8₉ y8)]
    have good : u = false → ∃ (ans st₉ : Int32) (cnum₉ : Nat → Int32) (cwl₉₉ : Int64) (ld₉ lu₉ um₉ rm₉ : Int32) (lnum₉ kwl₉ kwho₉ khe₉ old₉ : Nat → Int32) (B₉ : Bas), some ((1 : Int32), (0 : Int32), upd cnum (8 * y + i) r, cwl₉, (0 : Int32), (0 : Int32)) = some (ans, st₉, cnum₉, cwl₉₉, ld₉, lu₉) ∧
        (some ((1 : Int32), (0 : Int32), (0 : Int32), (0 : Int32), (0 : Int32), upd lnum (8 * y + i) r, (fun f => if f / 8 = y ∧ 0 ≤ f % 8 ∧ f % 8 < bw B then bI (wlL lmany (upd lnum (8 * y + i) r) y (f % 8)) else kwl f), kw1, kh1, (fun j => if 0 ≤ j ∧ j < 8 then lnum (8 * y + j) else old j)) : Option _) = some (ans, st₉, 0, um₉, rm₉, lnum₉, kwl₉, kwho₉, khe₉, old₉) ∧
        (B₉ = B ∨ ∃ y g, B₉ = rowB B y g) ∧ basOk B₉ ∧ stC B₉ P ∧ chX B₉ P (nI (bw B)) (nI (bh B)) cn cwl₉₉ ct ck cp cl cg ca cwd chg cs ∧ rfX B₉ P 1 (nI (bw B)) (nI (bh B)) (nI (bn B)) kwl₉ kk kat ks ky kg ∧ lgR B₉ P lf ld₉ lu₉ lm um₉ rm₉ ub uf ut rb rf rt ∧ lnR B₉ csort csize cnum₉ lsort lmany lnum₉ := by
      intro uf
      exact ⟨1, 0, _, cwl₉, 0, 0, 0, 0, _, _, kw1, kh1, _, rowB B y (wlL lmany (upd lnum (8 * y + i) r) y), rfl, rfl, Or.inr ⟨_, _, rfl⟩, rowB_bas h, ok uf, x1, rowB_rf hr0 hn.2.2.1, lgR_forget hl (ok uf), rowB_ln hn hy h8 w8 (fun z hz => ⟨rfl, rfl, rfl, rfl⟩) o1 ey⟩
    by_cases z : r = 0
    · have uf : u = false := by rw [ue, decide_eq_false (fun q => q z), Bool.false_and]
      rw [if_pos z, uf, if_pos (show bI false = 0 by decide), ev_b _ (m_walls w8 y8 kwl)]
      exact good uf
    · rw [if_neg z]
      cases tk : (decide (i < bw B) && tkA B P (i + 8 * y)) with
      | false =>
        have uf : u = false := by rw [ue, tk, Bool.and_false]
        rw [if_pos (show bI false = 0 by decide), uf, if_pos (show bI false = 0 by decide), ev_b _ (m_walls w8 y8 kwl)]
        exact good uf
      | true =>
        have ut₉ : u = true := by rw [ue, tk, decide_eq_true z]; rfl
        rw [if_neg (show ¬ bI true = 0 by decide), ut₉, if_neg (show ¬ bI true = 0 by decide), ev_b _ (m_backLine y8 lnum _ old (fun f hf => (o1 f hf).2))]
        exact ⟨0, 7, cnum, cwl, ld, lu, um, rm, lnum, kwl, kw1, kh1, _, B, rfl, rfl, Or.inl rfl, h, hP, hc0, hr0, hl, hn⟩
  · have e1 : (nI r = 0) = (r = 0) := nI_eqL (j := 0) (by omega) (by decide)
    have e2 : (nI r ≤ 0) = (r ≤ 0) := nI_leE (b := 0) (by omega) (by decide)
    rw [ev_b _ f1, ev_b _ f2]
    simp only [e1, e2]
    rw [if_neg (by omega), if_neg (by omega)]
    exact ⟨0, nI r, cnum, cwl, ld, lu, um, rm, lnum, kwl, kwho, khe, old, B, rfl, rfl, Or.inl rfl, h, hP, hc0, hr0, hl, hn⟩
end
section
/-! line of both sides. -/
theorem s_layZ {y : Nat} (hy : y < 8) : ∀ (d i n : Nat) (num : Nat → Int32), i + d = 8 → d < n → f_Lines_lay_L17 (nI y) n (nI i) num = some (fun f => if f / 8 = y ∧ i ≤ f % 8 then 0 else num f) := by
  intro d
  induction d with
  | zero =>
    intro i n num h hn
    obtain ⟨m, rfl⟩ : ∃ m, n = m + 1 := ⟨n - 1, by omega⟩
    have e : i = 8 := by omega
    subst e
    rw [f_Lines_lay_L17, if_pos (show (8 : Int32) ≤ nI 8 by decide)]
    refine congrArg some (funext fun f => ?_)
    rw [if_neg (by omega)]
  | succ d ih =>
    intro i n num h hn
    obtain ⟨m, rfl⟩ : ∃ m, n = m + 1 := ⟨n - 1, by omega⟩
    have e : (8 : Int32) * nI y + nI i = nI (8 * y + i) := by rw [i8, nI_add]
    have wr : f_Lines_write (nI y) (nI i) 0 num = some (upd num (8 * y + i) 0) := by
      unfold f_Lines_write
      rw [e, ev_grdN _ (show 8 * y + i < 64 by omega) (by decide), nI_clamp (by omega)]
    rw [f_Lines_lay_L17, if_neg (show ¬ (8 : Int32) ≤ nI i from nI_ge (b := 8) (show i < 8 by omega) (by decide)), ev_b _ wr, ev_bnd, nI_1, ih (i + 1) m _ (by omega) (by omega)]
    refine congrArg some (funext fun f => ?_)
    by_cases a : f = 8 * y + i
    · rw [if_neg (by omega), if_pos (by omega), a, pk_us]
    · rw [pk_un a]
      by_cases c : f / 8 = y ∧ i + 1 ≤ f % 8
      · rw [if_pos c, if_pos (by omega)]
      · rw [if_neg c, if_neg (by omega)]
theorem m_lineL86 {y : Nat} {v2 v4 : Int32} (hy : y < 8) : ∀ (d i n : Nat) (num : Nat → Int32), i + d = 8 → d < n → f_BargeBasinModel_line_L86 (nI y) v2 v4 n (nI i) num = some (fun f => if f / 8 = y ∧ i ≤ f % 8 then 0 else num f) := by
  intro d
  induction d with
  | zero =>
    intro i n num h hn
    obtain ⟨m, rfl⟩ : ∃ m, n = m + 1 := ⟨n - 1, by omega⟩
    have e : i = 8 := by omega
    subst e
    rw [f_BargeBasinModel_line_L86, if_pos (show (8 : Int32) ≤ nI 8 by decide)]
    refine congrArg some (funext fun f => ?_)
    rw [if_neg (by omega)]
  | succ d ih =>
    intro i n num h hn
    obtain ⟨m, rfl⟩ : ∃ m, n = m + 1 := ⟨n - 1, by omega⟩
    have e : (8 : Int32) * nI y + nI i = nI (8 * y + i) := by rw [i8, nI_add]
    rw [f_BargeBasinModel_line_L86, if_neg (show ¬ (8 : Int32) ≤ nI i from nI_ge (b := 8) (show i < 8 by omega) (by decide)), e, ev_grdN _ (show 8 * y + i < 64 by omega) (by decide), ev_bnd, nI_1, nI_clamp (show 8 * y + i < 2 ^ 31 by omega), ih (i + 1) m _ (by omega) (by omega)]
    refine congrArg some (funext fun f => ?_)
    by_cases a : f = 8 * y + i
    · rw [if_neg (by omega), if_pos (by omega), a, pk_us]
    · rw [pk_un a]
      by_cases c : f / 8 = y ∧ i + 1 ≤ f % 8
      · rw [if_pos c, if_pos (by omega)]
      · rw [if_neg c, if_neg (by omega)]
theorem s_lineL56 {B : Bas} {P : Nat → Nat} {y : Nat} {v2 v3 : Int32} {kt : Int64} (h : basOk B) (ht : chT B P kt) (hy : y < 8) : ∀ (d x n : Nat), bw B ≤ x + d → x ≤ 8 → d < n → ∃ t : Bool, f_BargeBasin_line_L56 (nI y) v2 v3 (nI (bw B)) kt n (nI x) = some (if t then .inl () else .inr ()) ∧ (t = true ↔ ∃ u, x ≤ u ∧ u < bw B ∧ tkA B P (u + 8 * y) = true) := by
  have w8 := h.2.1
  intro d
  induction d with
  | zero =>
    intro x n q x8 hn
    obtain ⟨m, rfl⟩ : ∃ m, n = m + 1 := ⟨n - 1, by omega⟩
    refine ⟨false, ?_, fun z => by (cases z), fun ⟨u, u1, u2, _⟩ => by omega⟩
    rw [f_BargeBasin_line_L56, if_pos (nI_le (show bw B ≤ x by omega) (by omega))]; rfl
  | succ d ih =>
    intro x n q x8 hn
    obtain ⟨m, rfl⟩ : ∃ m, n = m + 1 := ⟨n - 1, by omega⟩
    by_cases c : bw B ≤ x
    · refine ⟨false, ?_, fun z => by (cases z), fun ⟨u, u1, u2, _⟩ => by omega⟩
      rw [f_BargeBasin_line_L56, if_pos (nI_le c (by omega))]; rfl
    · obtain ⟨t, e1, q1⟩ := ih (x + 1) m (by omega) (by omega) (by omega)
      rw [f_BargeBasin_line_L56, if_neg (nI_ge (show x < bw B by omega) (by omega)), ev_b _ (s_isTaken h ht (show x < 8 by omega) hy), decide_eq_true (show x < bw B by omega), Bool.true_and]
      simp only [ev_bnd, nI_1]
      cases k : tkA B P (x + 8 * y) with
      | false =>
        rw [if_pos (show bI false = 0 by decide)]
        refine ⟨t, e1, fun z => ?_, fun ⟨u, u1, u2, u3⟩ => q1.mpr ⟨u, ?_, u2, u3⟩⟩
        · obtain ⟨u, u1, u2, u3⟩ := q1.mp z
          exact ⟨u, by omega, u2, u3⟩
        · by_cases z : u = x
          · rw [z, k] at u3; cases u3
          · omega
      | true =>
        rw [if_neg (show ¬ bI true = 0 by decide)]
        exact ⟨true, rfl, fun _ => ⟨x, Nat.le_refl _, by omega, k⟩, fun _ => rfl⟩
theorem eq_line {B : Bas} {P : Nat → Nat} {cw chh cn : Int32} {cwl ct : Int64} {ck cp cl cg ca cwd chg : Nat → Int32} {cs : Nat → Int64} {khas kw kh kn : Int32} {kwl kk kat ks ky kg : Nat → Int32} {lf ld lu um rm : Int32} {lm ub uf ut rb rf rt : Nat → Int32} {csort csize cnum lsort lmany lnum : Nat → Int32} (h : basOk B) (hP : stC B P) (hc : chX B P cw chh cn cwl ct ck cp cl cg ca cwd chg cs) (hr : rfX B P khas kw kh kn kwl kk kat ks ky kg) (hl : lgR B P lf ld lu lm um rm ub uf ut rb rf rt) (hn : lnR B csort csize cnum lsort lmany lnum) (v1 v2 v3 st st2 th : Int32) (kwho khe old : Nat → Int32) :
    ∃ (ans st₉ : Int32) (csort₉ csize₉ cnum₉ : Nat → Int32) (cwl₉ : Int64) (ld₉ lu₉ um₉ rm₉ : Int32) (lsort₉ lmany₉ lnum₉ kwl₉ kwho₉ khe₉ old₉ : Nat → Int32) (B₉ : Bas), f_BargeBasin_line v1 v2 v3 st csort csize cnum cw chh cwl ct ld lu = some (ans, st₉, csort₉, csize₉, cnum₉, cwl₉, ld₉, lu₉) ∧
      f_BargeBasinModel_line v1 v2 v3 st2 th khas kw kh kn um rm lsort lmany lnum kwl kk kat ks ky kwho khe old = some (ans, st₉, 0, um₉, rm₉, lsort₉, lmany₉, lnum₉, kwl₉, kwho₉, khe₉, old₉) ∧
      (B₉ = B ∨ ∃ y g, B₉ = rowB B y g) ∧ basOk B₉ ∧ stC B₉ P ∧ chX B₉ P cw chh cn cwl₉ ct ck cp cl cg ca cwd chg cs ∧ rfX B₉ P khas kw kh kn kwl₉ kk kat ks ky kg ∧ lgR B₉ P lf ld₉ lu₉ lm um₉ rm₉ ub uf ut rb rf rt ∧ lnR B₉ csort₉ csize₉ cnum₉ lsort₉ lmany₉ lnum₉ := by
  have h8 := h.2.2.2.1
  have w8 := h.2.1
  have hc0 := hc
  have hr0 := hr
  obtain ⟨c1, c2, c3, c4, c5, c6, c7, c8, c9⟩ := hc
  obtain ⟨r1, r2, r3, r4, r5, r6, r7, r8⟩ := hr
  subst c1; subst c2; subst r1; subst r2; subst r3; subst r4
  have bad : ∀ (e : Int32) (X : Option (Int32 × Int32 × (Nat → Int32) × (Nat → Int32) × (Nat → Int32) × Int64 × Int32 × Int32)) (Y : Option (Int32 × Int32 × Int32 × Int32 × Int32 × (Nat → Int32) × (Nat → Int32) × (Nat → Int32) × (Nat → Int32) × (Nat → Int32) × (Nat → Int32) × (Nat → Int32))) (kw1 kh1 old1 : Nat → Int32), X = some (0, e, csort, csize, cnum, cwl, ld, lu) → Y = some (0, e, 0, um, rm, lsort, lmany, lnum, kwl, kw1, kh1, old1) →
      ∃ (ans st₉ : Int32) (csort₉ csize₉ cnum₉ : Nat → Int32) (cwl₉ : Int64) (ld₉ lu₉ um₉ rm₉ : Int32) (lsort₉ lmany₉ lnum₉ kwl₉ kwho₉ khe₉ old₉ : Nat → Int32) (B₉ : Bas), X = some (ans, st₉, csort₉, csize₉, cnum₉, cwl₉, ld₉, lu₉) ∧ Y = some (ans, st₉, 0, um₉, rm₉, lsort₉, lmany₉, lnum₉, kwl₉, kwho₉, khe₉, old₉) ∧
      (B₉ = B ∨ ∃ y g, B₉ = rowB B y g) ∧ basOk B₉ ∧ stC B₉ P ∧ chX B₉ P (nI (bw B)) (nI (bh B)) cn cwl₉ ct ck cp cl cg ca cwd chg cs ∧ rfX B₉ P 1 (nI (bw B)) (nI (bh B)) (nI (bn B)) kwl₉ kk kat ks ky kg ∧ lgR B₉ P lf ld₉ lu₉ lm um₉ rm₉ ub uf ut rb rf rt ∧ lnR B₉ csort₉ csize₉ cnum₉ lsort₉ lmany₉ lnum₉ := by
    intro e X Y kw1 kh1 old1 hX hY
    exact ⟨0, e, csort, csize, cnum, cwl, ld, lu, um, rm, lsort, lmany, lnum, kwl, kw1, kh1, old1, B, hX, hY, Or.inl rfl, h, hP, hc0, hr0, hl, hn⟩
  unfold f_BargeBasin_line f_BargeBasinModel_line
  rw [ev_b _ (noBas h), if_pos rfl, if_neg (show ¬ (1 : Int32) = 0 by decide)]
  rcases lin (v1 := v1) h with ⟨y, hy, e, l1, l2⟩ | ⟨l1, l2⟩
  · subst e
    have y8 : y < 8 := by omega
    rw [ev_b _ l1, ev_b _ l2, if_pos rfl, if_neg (show ¬ (1 : Int32) = 0 by decide)]
    by_cases a1 : v2 < 0
    · rw [if_pos a1, if_pos a1]; exact bad 2 _ _ kwho khe old rfl rfl
    rw [if_neg a1, if_neg a1]
    by_cases a2 : (2 : Int32) < v2
    · rw [if_pos a2, if_pos a2]; exact bad 2 _ _ kwho khe old rfl rfl
    rw [if_neg a2, if_neg a2]
    by_cases a3 : v3 ≤ 8
    · rw [if_pos a3, if_pos a3]
      by_cases a4 : 0 ≤ v3
      · rw [if_pos a4, if_pos a4]
        obtain ⟨t, ht, et⟩ := nI_of (x := v2) a1
        obtain ⟨m, hm, em⟩ := nI_of (x := v3) (Int32.not_lt.mpr a4)
        subst et; subst em
        have t3 : t < 3 := by
          have : ((2 : Int32) < nI t) = (2 < t) := nI_ltE (a := 2) (by decide) ht
          rw [this] at a2; omega
        have m8 : m ≤ 8 := by
          have : (nI m ≤ (8 : Int32)) = (m ≤ 8) := nI_leE (b := 8) hm (by decide)
          rw [this] at a3; exact a3
        obtain ⟨zn, hzn⟩ : ∃ zn : Nat → Int32, zn = fun f => if f / 8 = y ∧ 0 ≤ f % 8 then 0 else lnum f := ⟨_, rfl⟩
        obtain ⟨zc, hzc⟩ : ∃ zc : Nat → Int32, zc = fun f => if f / 8 = y ∧ 0 ≤ f % 8 then 0 else cnum f := ⟨_, rfl⟩
        have o1 : ∀ f, f / 8 ≠ y → zc f = cnum f ∧ zn f = lnum f := fun f hf => by
          rw [hzn, hzc]
          exact ⟨if_neg (fun q => hf q.1), if_neg (fun q => hf q.1)⟩
        have o2 : ∀ i, i < 8 → zc (8 * y + i) = 0 ∧ zn (8 * y + i) = 0 := fun i hi => by
          rw [hzn, hzc]
          exact ⟨if_pos ⟨by omega, Nat.zero_le _⟩, if_pos ⟨by omega, Nat.zero_le _⟩⟩
        have ey : lnY (upd csort y (nI t)) (upd csize y (nI m)) zc (upd lsort y (nI t)) (upd lmany y (nI m)) zn y := Or.inr ⟨t, m, t3, m8, pk_us, pk_us, pk_us, pk_us, fun i hi => by rw [(o2 i (by omega)).1, (o2 i (by omega)).2]⟩
        have wl : ∀ x, x < 8 → wlL (upd lmany y (nI m)) zn y x = decide (m ≤ x) := fun x hx => by
          unfold wlL
          have el : (nI m ≤ nI x) = (m ≤ x) := nI_leE (by omega) (by omega)
          rw [pk_us, if_neg (nI_nn (by omega)), (o2 x hx).2]
          simp only [el]
          by_cases c : m ≤ x
          · rw [if_pos c, decide_eq_true c]
          · rw [if_neg c, decide_eq_false c]; simp
        obtain ⟨cwl₉, g1, x1⟩ := s_linesChanged (st := st) (ld := ld) (lu := lu) h y8 hc0 ey
        obtain ⟨u, kw1, kh1, u1, u2⟩ := m_isUnder (lm := upd lmany y (nI m)) (ln := zn) h hP.1.1 r6 r7 y8 kwho khe
        obtain ⟨v, e1, q1⟩ := s_lineL56 (v2 := nI t) (v3 := nI m) h c5 y8 (bw B) m jN (by omega) m8 (by show bw B < 2000000; omega)
        have uv : v = u := by
          rw [Bool.eq_iff_iff, q1, u2]
          constructor
          · rintro ⟨x, z1, z2, z3⟩; exact ⟨x, z2, by rw [wl x (by omega), decide_eq_true z1], z3⟩
          · rintro ⟨x, z1, z2, z3⟩
            rw [wl x (by omega), decide_eq_true_eq] at z2
            exact ⟨x, z2, z1, z3⟩
        have m86 := m_lineL86 (v2 := nI t) (v4 := lmany y) y8 8 0 jN lnum (by omega) (by show 8 < 2000000; omega)
        rw [← hzn] at m86
        have l17 := s_layZ y8 8 0 jN cnum (by omega) (by show 8 < 2000000; omega)
        rw [← hzc] at l17
        have lay : f_Lines_lay (nI y) (nI t) (nI m) csort csize cnum = some (upd csort y (nI t), upd csize y (nI m), zc) := by
          unfold f_Lines_lay
          rw [ev_grdN _ y8 (by decide), ev_grdN _ y8 (by decide), ev_b _ (show f_Lines_lay_L17 (nI y) jN 0 cnum = _ from l17), nI_clamp (show y < 2 ^ 31 by omega)]
        simp only [ev_grdN _ y8 (show 8 < 2 ^ 31 by decide), nI_clamp (show y < 2 ^ 31 by omega), ev_bnd]
        rw [ev_b _ e1, ev_b _ (m_keepLine y8 lnum old), ev_b _ (show f_BargeBasinModel_line_L86 (nI y) (nI t) (lmany y) jN 0 lnum = _ from m86), ev_b _ u1, un3_ap, uv]
        cases hu : u with
        | true =>
          rw [if_neg (show ¬ bI true = 0 by decide), ev_b _ (m_backLine y8 lnum _ old (fun f hf => (o1 f hf).2)), upd_back]
          exact bad 7 _ _ kw1 kh1 _ rfl rfl
        | false =>
          have ok : stC (rowB B y (wlL (upd lmany y (nI m)) zn y)) P := rowB_st hP (fun x hx g => by
            rw [← Bool.not_eq_true]
            intro tk
            have := u2.mpr ⟨x, hx, g, tk⟩
            rw [hu] at this; cases this)
          rw [if_pos (show bI false = 0 by decide), ev_b _ (m_walls w8 y8 kwl)]
          refine ⟨1, 0, upd csort y (nI t), upd csize y (nI m), zc, cwl₉, 0, 0, 0, 0, upd lsort y (nI t), upd lmany y (nI m), zn, _, kw1, kh1, _, rowB B y (wlL (upd lmany y (nI m)) zn y), ?_, rfl, Or.inr ⟨_, _, rfl⟩, rowB_bas h, ok, x1, rowB_rf hr0 hn.2.2.1, lgR_forget hl ok, rowB_ln hn hy h8 w8 (fun z hz => ⟨pk_un hz, pk_un hz, pk_un hz, pk_un hz⟩) o1 ey⟩
          show jb (f_Lines_lay (nI y) (nI t) (nI m) csort csize cnum) _ = _
          rw [ev_b _ lay, un3_ap, ev_b _ g1]; rfl
      · rw [if_neg a4, if_neg a4]; exact bad 6 _ _ kwho khe old rfl rfl
    · rw [if_neg a3, if_neg a3]; exact bad 2 _ _ kwho khe old rfl rfl
  · rw [ev_b _ l1, ev_b _ l2, if_neg (show ¬ (1 : Int32) = 0 by decide), if_pos rfl]
    exact bad 2 _ _ kwho khe old rfl rfl
end
section
/-! carry of both sides. -/
theorem cmpG {x y : Int64} : (0 < lg_cmp x y) = (y < x) := by
  unfold lg_cmp
  by_cases a : x > y
  · rw [if_pos a]
    exact propext ⟨fun _ => a, fun _ => by decide⟩
  · rw [if_neg a]
    by_cases b : x = y
    · rw [if_pos b]
      exact propext ⟨fun z => absurd z (by decide), fun z => absurd z a⟩
    · rw [if_neg b]
      exact propext ⟨fun z => absurd z (by decide), fun z => absurd z a⟩
theorem cmpLE {x y : Int64} : (lg_cmp x y ≤ 0) = (¬ y < x) := by
  have e := cmpG (x := x) (y := y)
  refine propext ⟨fun h z => ?_, fun h => ?_⟩
  · exact absurd (e.mpr z) (Int32.not_lt.mpr h)
  · exact Int32.not_lt.mp (fun z => h (e.mp z))
theorem long_sum {v w : Int32} {m : Nat} (hm : m < 100) : ((nI m).toInt64 < v.toInt64 + w.toInt64) = ((m : Int) < v.toInt + w.toInt) := by
  have a1 := Int32.toInt_lt v
  have a2 := Int32.le_toInt v
  have b1 := Int32.toInt_lt w
  have b2 := Int32.le_toInt w
  rw [Int64.lt_iff_toInt_lt, Int64.toInt_add, Int32.toInt_toInt64, Int32.toInt_toInt64, Int32.toInt_toInt64, nI_toInt (by omega), Int.bmod_eq_of_le (by omega) (by omega)]
theorem s_holds {csize : Nat → Int32} {y m : Nat} {v2 v5 : Int32} (hy : y < 8) (hm : m ≤ 8) (e : csize y = nI m) (h5 : 0 ≤ v5.toInt) : f_Lines_holds (nI y) v2 v5 csize = some (bI (decide (0 ≤ v2.toInt ∧ v2.toInt + v5.toInt ≤ m))) := by
  have t0 : (0 : Int32).toInt = 0 := rfl
  have b1 := Int32.toInt_lt v5
  unfold f_Lines_holds
  rw [ev_grdN _ hy (by decide), ev_grdN _ hy (by decide), nI_clamp (show y < 2 ^ 31 by omega), e]
  have es : (nI m - v5).toInt = m - v5.toInt := by
    rw [Int32.toInt_sub, nI_toInt (by omega), Int.bmod_eq_of_le (by omega) (by omega)]
  simp only [Int32.lt_iff_toInt_lt, t0, nI_toInt (show m < 2 ^ 31 by omega), es]
  by_cases c1 : v2.toInt < 0
  · rw [if_pos c1, decide_eq_false (by omega)]; rfl
  · rw [if_neg c1]
    by_cases c2 : (m : Int) < v5.toInt
    · rw [if_pos c2, decide_eq_false (by omega)]; rfl
    · rw [if_neg c2]
      by_cases c3 : (m : Int) - v5.toInt < v2.toInt
      · rw [if_pos c3, decide_eq_false (by omega)]; rfl
      · rw [if_neg c3, decide_eq_true (by omega)]; rfl
theorem s_copyL3 {num : Nat → Int32} {y a l : Nat} {v3 v4 : Int32} (hy : y < 8) (ha : a + l ≤ 8) : ∀ (d k n : Nat) (car : Nat → Int32), k + d = l → d < n → f_Lines_copy_L3 (nI y) (nI a) v3 v4 (nI l) num n (nI k) car = some (fun j => if k ≤ j ∧ j < l then num (8 * y + (a + j)) else car j) := by
  intro d
  induction d with
  | zero =>
    intro k n car h hn
    obtain ⟨m, rfl⟩ : ∃ m, n = m + 1 := ⟨n - 1, by omega⟩
    have e : k = l := by omega
    subst e
    rw [f_Lines_copy_L3, if_pos (nI_le (Nat.le_refl _) (by omega))]
    refine congrArg some (funext fun f => ?_)
    rw [if_neg (by omega)]
  | succ d ih =>
    intro k n car h hn
    obtain ⟨m, rfl⟩ : ∃ m, n = m + 1 := ⟨n - 1, by omega⟩
    have e : (8 : Int32) * nI y + nI (a + k) = nI (8 * y + (a + k)) := by rw [i8, nI_add]
    have nm : f_Lines_number (nI y) (nI (a + k)) num = some (num (8 * y + (a + k))) := by
      unfold f_Lines_number
      rw [e, ev_grdN _ (show 8 * y + (a + k) < 64 by omega) (by decide), nI_clamp (by omega)]
    rw [f_Lines_copy_L3, if_neg (nI_ge (show k < l by omega) (by omega)), nI_add, ev_b _ nm, ev_grdN _ (show k < 8 by omega) (by decide), ev_bnd, nI_1, nI_clamp (show k < 2 ^ 31 by omega), ih (k + 1) m _ (by omega) (by omega)]
    refine congrArg some (funext fun f => ?_)
    by_cases z : f = k
    · subst z
      rw [if_neg (by omega), if_pos (by omega), pk_us]
    · rw [pk_un z]
      by_cases c : k + 1 ≤ f ∧ f < l
      · rw [if_pos c, if_pos (by omega)]
      · rw [if_neg c, if_neg (by omega)]
/-- row y from b on gets g's first l numbers, those below k left out -/
def ovr (num g : Nat → Int32) (y b k l : Nat) : Nat → Int32 := fun f => if 8 * y + b + k ≤ f ∧ f < 8 * y + b + l then g (f - (8 * y + b)) else num f
theorem ovr_end {num g : Nat → Int32} {y b l : Nat} : ovr num g y b l l = num := by
  funext f; unfold ovr; rw [if_neg (by omega)]
theorem ovr_step {num g : Nat → Int32} {y b k l : Nat} (hk : k < l) : ovr (upd num (8 * y + b + k) (g k)) g y b (k + 1) l = ovr num g y b k l := by
  funext f
  unfold ovr
  by_cases z : f = 8 * y + b + k
  · rw [if_neg (by omega), if_pos (by omega), z, pk_us, show 8 * y + b + k - (8 * y + b) = k by omega]
  · rw [pk_un z]
    by_cases c : 8 * y + b + (k + 1) ≤ f ∧ f < 8 * y + b + l
    · rw [if_pos c, if_pos (by omega)]
    · rw [if_neg c, if_neg (by omega)]
theorem s_copyL35 {g car : Nat → Int32} {y b l : Nat} (hy : y < 8) (hb : b + l ≤ 8) (hg : ∀ k, k < l → car k = g k) : ∀ (d k n : Nat) (num : Nat → Int32), k + d = l → d < n → f_Lines_copy_L35 (nI y) (nI b) (nI l) car n (nI k) num = some (ovr num g y b k l) := by
  intro d
  induction d with
  | zero =>
    intro k n num h hn
    obtain ⟨m, rfl⟩ : ∃ m, n = m + 1 := ⟨n - 1, by omega⟩
    have e : k = l := by omega
    subst e
    rw [f_Lines_copy_L35, if_pos (nI_le (Nat.le_refl _) (by omega)), ovr_end]
  | succ d ih =>
    intro k n num h hn
    obtain ⟨m, rfl⟩ : ∃ m, n = m + 1 := ⟨n - 1, by omega⟩
    have wr : ∀ v, f_Lines_write (nI y) (nI (b + k)) v num = some (upd num (8 * y + b + k) v) := fun v => by
      unfold f_Lines_write
      rw [show (8 : Int32) * nI y + nI (b + k) = nI (8 * y + b + k) by rw [i8, nI_add, Nat.add_assoc], ev_grdN _ (show 8 * y + b + k < 64 by omega) (by decide), nI_clamp (by omega)]
    rw [f_Lines_copy_L35, if_neg (nI_ge (show k < l by omega) (by omega)), ev_grdN _ (show k < 8 by omega) (by decide), nI_add, ev_b _ (wr _), ev_bnd, nI_1, nI_clamp (show k < 2 ^ 31 by omega), ih (k + 1) m _ (by omega) (by omega), hg k (by omega), ovr_step (by omega)]
theorem s_copy {num : Nat → Int32} {y a z b l : Nat} (hy : y < 8) (hz : z < 8) (ha : a + l ≤ 8) (hb : b + l ≤ 8) (car : Nat → Int32) : ∃ car₉, f_Lines_copy (nI y) (nI a) (nI z) (nI b) (nI l) num car = some (ovr num (fun k => num (8 * y + (a + k))) z b 0 l, car₉) := by
  have e1 := s_copyL3 (num := num) (v3 := nI z) (v4 := nI b) hy ha l 0 jN car (by omega) (by show l < 2000000; omega)
  have e2 := s_copyL35 (g := fun k => num (8 * y + (a + k))) (car := fun j => if 0 ≤ j ∧ j < l then num (8 * y + (a + j)) else car j) hz hb (fun k hk => if_pos ⟨Nat.zero_le _, hk⟩) l 0 jN num (by omega) (by show l < 2000000; omega)
  refine ⟨fun j => if 0 ≤ j ∧ j < l then num (8 * y + (a + j)) else car j, ?_⟩
  unfold f_Lines_copy
  rw [ev_b _ (show f_Lines_copy_L3 (nI y) (nI a) (nI z) (nI b) (nI l) num jN 0 car = _ from e1), ev_b _ (show f_Lines_copy_L35 (nI z) (nI b) (nI l) _ jN 0 num = _ from e2)]
theorem m_carL {num0 : Nat → Int32} {y a z b l : Nat} (hy : y < 8) (hz : z < 8) (ha : a + l ≤ 8) (hb : b + l ≤ 8) {old : Nat → Int32} (ho : ∀ j, j < 8 → old j = num0 (8 * z + j)) : ∀ (d k n : Nat) (num : Nat → Int32), k + d = l → d < n → (∀ f, f / 8 ≠ z → num f = num0 f) → f_BargeBasinModel_carry_L160 (nI y) (nI a) (nI z) (nI b) (nI l) old n (nI k) num = some (ovr num (fun k => num0 (8 * y + (a + k))) z b k l) := by
  intro d
  induction d with
  | zero =>
    intro k n num h hn hq
    obtain ⟨m, rfl⟩ : ∃ m, n = m + 1 := ⟨n - 1, by omega⟩
    have e : k = l := by omega
    subst e
    rw [f_BargeBasinModel_carry_L160, if_pos (nI_le (Nat.le_refl _) (by omega)), ovr_end]
  | succ d ih =>
    intro k n num h hn hq
    obtain ⟨m, rfl⟩ : ∃ m, n = m + 1 := ⟨n - 1, by omega⟩
    have e1 : (8 : Int32) * nI z + nI b + nI k = nI (8 * z + b + k) := by rw [i8, nI_add, nI_add]
    have e2 : (8 : Int32) * nI y + nI a + nI k = nI (8 * y + a + k) := by rw [i8, nI_add, nI_add]
    have ee : (nI y = nI z) = (y = z) := nI_eqL (by omega) (by omega)
    have go := ih (k + 1) m (upd num (8 * z + b + k) (num0 (8 * y + (a + k)))) (by omega) (by omega) (fun f hf => by rw [pk_un (show f ≠ 8 * z + b + k by omega)]; exact hq f hf)
    rw [ovr_step (g := fun k => num0 (8 * y + (a + k))) (by omega)] at go
    rw [f_BargeBasinModel_carry_L160, if_neg (nI_ge (show k < l by omega) (by omega)), e1, e2, nI_add a k, ev_grdN _ (show a + k < 8 by omega) (by decide), ev_grdN _ (show 8 * y + a + k < 64 by omega) (by decide), nI_clamp (show a + k < 2 ^ 31 by omega), nI_clamp (show 8 * y + a + k < 2 ^ 31 by omega)]
    simp only [ee, ev_bnd, ev_grdN _ (show 8 * z + b + k < 64 by omega) (show 64 < 2 ^ 31 by decide), nI_clamp (show 8 * z + b + k < 2 ^ 31 by omega), nI_1]
    by_cases c : y = z
    · rw [if_pos c, ho _ (by omega), ← c, show 8 * y + (a + k) = 8 * y + (a + k) from rfl]
      rw [← c] at go
      exact go
    · rw [if_neg c, hq _ (by omega), Nat.add_assoc (8 * y) a k]
      exact go
theorem s_carL28 {B : Bas} {P : Nat → Nat} {num : Nat → Int32} {y a z b l : Nat} {kt : Int64} (h : basOk B) (ht : chT B P kt) (hy : y < 8) (hz : z < 8) (ha : a + l ≤ 8) (hb : b + l ≤ 8) : ∀ (d k n : Nat), k + d = l → d < n → ∃ t : Bool, f_BargeBasin_carry_L28 (nI y) (nI a) (nI z) (nI b) (nI l) num (nI (bw B)) kt n (nI k) = some (if t then .inl () else .inr ()) ∧ (t = true ↔ ∃ u, k ≤ u ∧ u < l ∧ ¬ num (8 * y + (a + u)) = 0 ∧ b + u < bw B ∧ tkA B P (b + u + 8 * z) = true) := by
  intro d
  induction d with
  | zero =>
    intro k n q hn
    obtain ⟨m, rfl⟩ : ∃ m, n = m + 1 := ⟨n - 1, by omega⟩
    refine ⟨false, ?_, fun z => by (cases z), fun ⟨u, u1, u2, _⟩ => by omega⟩
    rw [f_BargeBasin_carry_L28, if_pos (nI_le (show l ≤ k by omega) (by omega))]; rfl
  | succ d ih =>
    intro k n q hn
    obtain ⟨m, rfl⟩ : ∃ m, n = m + 1 := ⟨n - 1, by omega⟩
    obtain ⟨t, e1, q1⟩ := ih (k + 1) m (by omega) (by omega)
    have nm : f_Lines_number (nI y) (nI (a + k)) num = some (num (8 * y + (a + k))) := by
      unfold f_Lines_number
      rw [show (8 : Int32) * nI y + nI (a + k) = nI (8 * y + (a + k)) by rw [i8, nI_add], ev_grdN _ (show 8 * y + (a + k) < 64 by omega) (by decide), nI_clamp (by omega)]
    have rest : (∃ u, k + 1 ≤ u ∧ u < l ∧ ¬ num (8 * y + (a + u)) = 0 ∧ b + u < bw B ∧ tkA B P (b + u + 8 * z) = true) → ∃ u, k ≤ u ∧ u < l ∧ ¬ num (8 * y + (a + u)) = 0 ∧ b + u < bw B ∧ tkA B P (b + u + 8 * z) = true := fun ⟨u, u1, u2⟩ => ⟨u, by omega, u2⟩
    rw [f_BargeBasin_carry_L28, if_neg (nI_ge (show k < l by omega) (by omega)), nI_add, ev_b _ nm, nI_add, ev_b _ (s_isTaken h ht (show b + k < 8 by omega) hz)]
    simp only [ev_bnd, nI_1]
    by_cases c : num (8 * y + (a + k)) = 0
    · rw [if_pos c]
      refine ⟨t, e1, fun w => rest (q1.mp w), fun ⟨u, u1, u2, u3, u4⟩ => q1.mpr ⟨u, ?_, u2, u3, u4⟩⟩
      by_cases w : u = k
      · rw [w] at u3; exact absurd c u3
      · omega
    · rw [if_neg c]
      cases e : (decide (b + k < bw B) && tkA B P (b + k + 8 * z)) with
      | false =>
        rw [if_pos (show bI false = 0 by decide)]
        refine ⟨t, e1, fun w => rest (q1.mp w), fun ⟨u, u1, u2, u3, u4, u5⟩ => q1.mpr ⟨u, ?_, u2, u3, u4, u5⟩⟩
        by_cases w : u = k
        · rw [w] at u4 u5
          rw [u5, decide_eq_true u4] at e; cases e
        · omega
      | true =>
        rw [Bool.and_eq_true, decide_eq_true_eq] at e
        rw [if_neg (show ¬ bI true = 0 by decide)]
        exact ⟨true, rfl, fun _ => ⟨k, Nat.le_refl _, by omega, c, e.1, e.2⟩, fun _ => rfl⟩
end
section
/-! carry: both sides. -/
theorem if4 {α : Type} {c1 c2 c3 c4 : Prop} [Decidable c1] [Decidable c2] [Decidable c3] [Decidable c4] {X G : α} (h : ¬ (¬ c1 ∧ ¬ c2 ∧ ¬ c3 ∧ c4)) : (if c1 then X else if c2 then X else if c3 then X else if c4 then G else X) = X := by
  by_cases a1 : c1
  · rw [if_pos a1]
  · rw [if_neg a1]
    by_cases a2 : c2
    · rw [if_pos a2]
    · rw [if_neg a2]
      by_cases a3 : c3
      · rw [if_pos a3]
      · rw [if_neg a3, if_neg (fun a4 => h ⟨a1, a2, a3, a4⟩)]
theorem eq_carry {B : Bas} {P : Nat → Nat} {cw chh cn : Int32} {cwl ct : Int64} {ck cp cl cg ca cwd chg : Nat → Int32} {cs : Nat → Int64} {khas kw kh kn : Int32} {kwl kk kat ks ky kg : Nat → Int32} {lf ld lu um rm : Int32} {lm ub uf ut rb rf rt : Nat → Int32} {csort csize cnum lsort lmany lnum : Nat → Int32} (h : basOk B) (hP : stC B P) (hc : chX B P cw chh cn cwl ct ck cp cl cg ca cwd chg cs) (hr : rfX B P khas kw kh kn kwl kk kat ks ky kg) (hl : lgR B P lf ld lu lm um rm ub uf ut rb rf rt) (hn : lnR B csort csize cnum lsort lmany lnum) (v1 v2 v3 v4 v5 st st2 th : Int32) (car kwho khe old : Nat → Int32) :
    ∃ (ans st₉ : Int32) (cnum₉ car₉ : Nat → Int32) (cwl₉ : Int64) (ld₉ lu₉ um₉ rm₉ : Int32) (lnum₉ kwl₉ kwho₉ khe₉ old₉ : Nat → Int32) (B₉ : Bas), f_BargeBasin_carry v1 v2 v3 v4 v5 st csort csize cnum car cw chh cwl ct ld lu = some (ans, st₉, cnum₉, car₉, cwl₉, ld₉, lu₉) ∧
      f_BargeBasinModel_carry v1 v2 v3 v4 v5 st2 th khas kw kh kn um rm lsort lmany lnum kwl kk kat ks ky kwho khe old = some (ans, st₉, 0, um₉, rm₉, lnum₉, kwl₉, kwho₉, khe₉, old₉) ∧
      (B₉ = B ∨ ∃ y g, B₉ = rowB B y g) ∧ basOk B₉ ∧ stC B₉ P ∧ chX B₉ P cw chh cn cwl₉ ct ck cp cl cg ca cwd chg cs ∧ rfX B₉ P khas kw kh kn kwl₉ kk kat ks ky kg ∧ lgR B₉ P lf ld₉ lu₉ lm um₉ rm₉ ub uf ut rb rf rt ∧ lnR B₉ csort csize cnum₉ lsort lmany lnum₉ := by
  have h8 := h.2.2.2.1
  have w8 := h.2.1
  have t0 : (0 : Int32).toInt = 0 := rfl
  have hc0 := hc
  have hr0 := hr
  obtain ⟨c1, c2, c3, c4, c5, c6, c7, c8, c9⟩ := hc
  obtain ⟨r1, r2, r3, r4, r5, r6, r7, r8⟩ := hr
  subst c1; subst c2; subst r1; subst r2; subst r3; subst r4
  have bad : ∀ (e : Int32) (X : Option (Int32 × Int32 × (Nat → Int32) × (Nat → Int32) × Int64 × Int32 × Int32)) (Y : Option (Int32 × Int32 × Int32 × Int32 × Int32 × (Nat → Int32) × (Nat → Int32) × (Nat → Int32) × (Nat → Int32) × (Nat → Int32))) (kw1 kh1 old1 : Nat → Int32), X = some (0, e, cnum, car, cwl, ld, lu) → Y = some (0, e, 0, um, rm, lnum, kwl, kw1, kh1, old1) →
      ∃ (ans st₉ : Int32) (cnum₉ car₉ : Nat → Int32) (cwl₉ : Int64) (ld₉ lu₉ um₉ rm₉ : Int32) (lnum₉ kwl₉ kwho₉ khe₉ old₉ : Nat → Int32) (B₉ : Bas), X = some (ans, st₉, cnum₉, car₉, cwl₉, ld₉, lu₉) ∧ Y = some (ans, st₉, 0, um₉, rm₉, lnum₉, kwl₉, kwho₉, khe₉, old₉) ∧
      (B₉ = B ∨ ∃ y g, B₉ = rowB B y g) ∧ basOk B₉ ∧ stC B₉ P ∧ chX B₉ P (nI (bw B)) (nI (bh B)) cn cwl₉ ct ck cp cl cg ca cwd chg cs ∧ rfX B₉ P 1 (nI (bw B)) (nI (bh B)) (nI (bn B)) kwl₉ kk kat ks ky kg ∧ lgR B₉ P lf ld₉ lu₉ lm um₉ rm₉ ub uf ut rb rf rt ∧ lnR B₉ csort csize cnum₉ lsort lmany lnum₉ := by
    intro e X Y kw1 kh1 old1 hX hY
    exact ⟨0, e, cnum, car, cwl, ld, lu, um, rm, lnum, kwl, kw1, kh1, old1, B, hX, hY, Or.inl rfl, h, hP, hc0, hr0, hl, hn⟩
  unfold f_BargeBasin_carry f_BargeBasin_faultOfCarry f_BargeBasinModel_carry
  rw [ev_b _ (noBas h), if_pos rfl, if_neg (show ¬ (1 : Int32) = 0 by decide)]
  rcases lin (v1 := v1) h with ⟨y, hy, e, l1, l2⟩ | ⟨l1, l2⟩
  · subst e
    have y8 : y < 8 := by omega
    rw [ev_b _ l1, ev_b _ l2, if_pos rfl, if_neg (show ¬ (1 : Int32) = 0 by decide)]
    rcases lin (v1 := v3) h with ⟨z, hz, e, l3, l4⟩ | ⟨l3, l4⟩
    · subst e
      have z8 : z < 8 := by omega
      rw [ev_b _ l3, ev_b _ l4, if_pos rfl, if_neg (show ¬ (1 : Int32) = 0 by decide), ev_b _ (s_missing y8 (hn.1 y y8)), ev_b _ (s_missing z8 (hn.1 z z8))]
      simp only [ev_grdN _ y8 (show 8 < 2 ^ 31 by decide), ev_grdN _ z8 (show 8 < 2 ^ 31 by decide), nI_clamp (show y < 2 ^ 31 by omega), nI_clamp (show z < 2 ^ 31 by omega)]
      rcases hn.1 y y8 with ⟨-, my⟩ | ⟨t1, m1, t13, m18, a1, a2, a3, a4, a5⟩
      · rw [decide_eq_true my, if_neg (show ¬ bI true = 0 by decide), if_pos my]
        exact bad 3 _ _ kwho khe old rfl rfl
      have ny : ¬ lmany y < 0 := by rw [a4]; exact nI_nn (by omega)
      rw [decide_eq_false ny, if_pos (show bI false = 0 by decide), if_neg ny]
      rcases hn.1 z z8 with ⟨-, mz⟩ | ⟨t2, m3, t23, m38, b1, b2, b3, b4, b5⟩
      · rw [decide_eq_true mz, if_neg (show ¬ bI true = 0 by decide), if_neg (show ¬ 0 ≤ lmany z from fun q => absurd mz (Int32.not_lt.mpr q))]
        exact bad 3 _ _ kwho khe old rfl rfl
      have nz : ¬ lmany z < 0 := by rw [b4]; exact nI_nn (by omega)
      rw [decide_eq_false nz, if_pos (show bI false = 0 by decide), if_pos (show 0 ≤ lmany z from Int32.not_lt.mp nz), a1, b1, a2, b2]
      by_cases s1 : nI t1 = nI t2
      · rw [if_pos s1, if_pos s1]
        by_cases s2 : 0 ≤ v5
        · rw [if_pos s2, if_pos s2]
          have v5n : 0 ≤ v5.toInt := by rw [Int32.le_iff_toInt_le, t0] at s2; exact s2
          simp only [cmpG, cmpLE]
          rw [ev_b _ (s_holds y8 m18 a3 v5n), ev_b _ (s_holds z8 m38 b3 v5n)]
          have g1 : ((lmany y).toInt64 < v2.toInt64 + v5.toInt64) = ((m1 : Int) < v2.toInt + v5.toInt) := by rw [a4]; exact long_sum (by omega)
          have g2 : ((lmany z).toInt64 < v4.toInt64 + v5.toInt64) = ((m3 : Int) < v4.toInt + v5.toInt) := by rw [b4]; exact long_sum (by omega)
          simp only [g1, g2]
          by_cases p : (0 ≤ v2.toInt ∧ v2.toInt + v5.toInt ≤ m1) ∧ (0 ≤ v4.toInt ∧ v4.toInt + v5.toInt ≤ m3)
          · have q1 : ¬ v2 < 0 := fun q => by rw [Int32.lt_iff_toInt_lt, t0] at q; omega
            have q2 : ¬ v4 < 0 := fun q => by rw [Int32.lt_iff_toInt_lt, t0] at q; omega
            rw [decide_eq_true p.1, decide_eq_true p.2, if_neg (show ¬ bI true = 0 by decide), if_neg (show ¬ bI true = 0 by decide), if_neg q1, if_neg q2, if_neg (show ¬ (m1 : Int) < v2.toInt + v5.toInt by omega), if_pos (show ¬ (m3 : Int) < v4.toInt + v5.toInt by omega), ev_b _ (rfl : some (0 : Int32) = some 0), if_pos rfl]
            obtain ⟨a, ha, ea⟩ := nI_of (x := v2) q1
            obtain ⟨b, hb, eb⟩ := nI_of (x := v4) q2
            obtain ⟨l, hl₉, el⟩ := nI_of (x := v5) (Int32.not_lt.mpr s2)
            subst ea; subst eb; subst el
            rw [nI_toInt ha, nI_toInt hb, nI_toInt hl₉] at p
            have al : a + l ≤ m1 := by omega
            have bl : b + l ≤ m3 := by omega
            obtain ⟨N, hN⟩ : ∃ N, N = ovr lnum (fun k => lnum (8 * y + (a + k))) z b 0 l := ⟨_, rfl⟩
            obtain ⟨C, hC⟩ : ∃ C, C = ovr cnum (fun k => cnum (8 * y + (a + k))) z b 0 l := ⟨_, rfl⟩
            have nin : ∀ x, b ≤ x → x < b + l → N (8 * z + x) = lnum (8 * y + (a + (x - b))) ∧ C (8 * z + x) = cnum (8 * y + (a + (x - b))) := fun x x1 x2 => by
              rw [hN, hC]
              unfold ovr
              rw [if_pos (by omega), if_pos (by omega), show 8 * z + x - (8 * z + b) = x - b by omega]
              exact ⟨rfl, rfl⟩
            have nou : ∀ f, ¬ (8 * z + b ≤ f ∧ f < 8 * z + b + l) → C f = cnum f ∧ N f = lnum f := fun f hf => by
              rw [hN, hC]
              unfold ovr
              rw [if_neg (by omega), if_neg (by omega)]
              exact ⟨rfl, rfl⟩
            have o1 : ∀ f, f / 8 ≠ z → C f = cnum f ∧ N f = lnum f := fun f hf => nou f (by omega)
            have ey : lnY csort csize C lsort lmany N z := Or.inr ⟨t2, m3, t23, m38, b1, b2, b3, b4, fun i hi => by
              by_cases c : b ≤ i ∧ i < b + l
              · rw [(nin i c.1 c.2).1, (nin i c.1 c.2).2]; exact a5 _ (by omega)
              · rw [(nou (8 * z + i) (by omega)).1, (nou (8 * z + i) (by omega)).2]; exact b5 i hi⟩
            have win : ∀ x, b ≤ x → x < b + l → wlL lmany N z x = decide (¬ lnum (8 * y + (a + (x - b))) = 0) := fun x x1 x2 => by
              unfold wlL
              rw [if_neg nz, b4, if_neg (show ¬ nI m3 ≤ nI x from nI_ge (by omega) (by omega)), (nin x x1 x2).1]
            have wou : ∀ x, ¬ (b ≤ x ∧ x < b + l) → wlL lmany N z x = wlL lmany lnum z x := fun x hx => by
              unfold wlL
              rw [(nou (8 * z + x) (by omega)).2]
            obtain ⟨cwl₉, f1, x1⟩ := s_linesChanged (st := st) (ld := ld) (lu := lu) h z8 hc0 ey
            obtain ⟨u, kw1, kh1, u1, u2⟩ := m_isUnder (lm := lmany) (ln := N) h hP.1.1 r6 r7 z8 kwho khe
            obtain ⟨v, e1, q3⟩ := s_carL28 (num := cnum) (y := y) (a := a) (z := z) (b := b) (l := l) h c5 y8 z8 (by omega) (by omega) l 0 jN (by omega) (by show l < 2000000; omega)
            obtain ⟨car₉, e2⟩ := s_copy (num := cnum) (y := y) (a := a) (z := z) (b := b) (l := l) y8 z8 (by omega) (by omega) car
            rw [← hC] at e2
            have e3 := m_carL (num0 := lnum) (y := y) (a := a) (z := z) (b := b) (l := l) (old := fun j => if 0 ≤ j ∧ j < 8 then lnum (8 * z + j) else old j) y8 z8 (by omega) (by omega) (fun j hj => if_pos ⟨Nat.zero_le _, hj⟩) l 0 jN lnum (by omega) (by show l < 2000000; omega) (fun f _ => rfl)
            rw [← hN] at e3
            have uv : v = u := by
              rw [Bool.eq_iff_iff, q3, u2]
              constructor
              · rintro ⟨k, k1, k2, k3, k4, k5⟩
                refine ⟨b + k, k4, ?_, k5⟩
                rw [win _ (by omega) (by omega), show b + k - b = k by omega, decide_eq_true_eq, ← a5 _ (show a + k < m1 by omega)]
                exact k3
              · rintro ⟨x, k1, k2, k3⟩
                by_cases c : b ≤ x ∧ x < b + l
                · rw [win x c.1 c.2, decide_eq_true_eq, ← a5 _ (show a + (x - b) < m1 by omega)] at k2
                  exact ⟨x - b, Nat.zero_le _, by omega, k2, by omega, by rw [show b + (x - b) = x by omega]; exact k3⟩
                · rw [wou x c, ← hn.2.1 z x hz k1, tk_nw hP (by omega) k3] at k2; cases k2
            rw [ev_b _ (show f_BargeBasin_carry_L28 (nI y) (nI a) (nI z) (nI b) (nI l) cnum (nI (bw B)) ct jN 0 = _ from e1), ev_b _ (m_keepLine z8 lnum old), ev_b _ (show f_BargeBasinModel_carry_L160 (nI y) (nI a) (nI z) (nI b) (nI l) _ jN 0 lnum = _ from e3), ev_b _ u1, un3_ap, uv]
            cases hu : u with
            | true =>
              rw [if_neg (show ¬ bI true = 0 by decide), ev_b _ (m_backLine z8 lnum _ old (fun f hf => (o1 f hf).2))]
              exact bad 7 _ _ kw1 kh1 _ rfl rfl
            | false =>
              have ok : stC (rowB B z (wlL lmany N z)) P := rowB_st hP (fun x hx g => by
                rw [← Bool.not_eq_true]
                intro tk
                have := u2.mpr ⟨x, hx, g, tk⟩
                rw [hu] at this; cases this)
              rw [if_pos (show bI false = 0 by decide), ev_b _ (m_walls w8 z8 kwl)]
              refine ⟨1, 0, C, car₉, cwl₉, 0, 0, 0, 0, N, _, kw1, kh1, _, rowB B z (wlL lmany N z), ?_, rfl, Or.inr ⟨_, _, rfl⟩, rowB_bas h, ok, x1, rowB_rf hr0 hn.2.2.1, lgR_forget hl ok, rowB_ln hn hz h8 w8 (fun z hz => ⟨rfl, rfl, rfl, rfl⟩) o1 ey⟩
              show jb (f_Lines_copy (nI y) (nI a) (nI z) (nI b) (nI l) cnum car) _ = _
              rw [ev_b _ e2, un2_ap, ev_b _ f1]; rfl
          · rw [if4 (by
              rintro ⟨q1, q2, q3, q4⟩
              rw [Int32.lt_iff_toInt_lt, t0] at q1 q2
              exact p (by omega))]
            by_cases p1 : 0 ≤ v2.toInt ∧ v2.toInt + v5.toInt ≤ m1
            · rw [decide_eq_true p1, decide_eq_false (fun q => p ⟨p1, q⟩), if_neg (show ¬ bI true = 0 by decide), if_pos (show bI false = 0 by decide)]
              exact bad 4 _ _ kwho khe old rfl rfl
            · rw [decide_eq_false p1, if_pos (show bI false = 0 by decide)]
              exact bad 4 _ _ kwho khe old rfl rfl
        · rw [if_neg s2, if_neg s2]; exact bad 6 _ _ kwho khe old rfl rfl
      · rw [if_neg s1, if_neg s1]; exact bad 5 _ _ kwho khe old rfl rfl
    · rw [ev_b _ l3, ev_b _ l4, if_neg (show ¬ (1 : Int32) = 0 by decide), if_pos rfl]
      exact bad 2 _ _ kwho khe old rfl rfl
  · rw [ev_b _ l1, ev_b _ l2, if_neg (show ¬ (1 : Int32) = 0 by decide), if_pos rfl]
    exact bad 2 _ _ kwho khe old rfl rfl
end
section
/-! Without a basin: both sides refuse with status 1. -/
theorem nb_BargeBasin_line (v1 : Int32) (v2 : Int32) (v3 : Int32) (k_status : Int32) (k_lines_sort : Nat → Int32) (k_lines_size : Nat → Int32) (k_lines_numbers : Nat → Int32) (k_chart_height : Int32) (k_chart_walls : Int64) (k_chart_taken : Int64) (k_log_done : Int32) (k_log_undone : Int32) : f_BargeBasin_line v1 v2 v3 k_status k_lines_sort k_lines_size k_lines_numbers 0 k_chart_height k_chart_walls k_chart_taken k_log_done k_log_undone = some (0, 1, k_lines_sort, k_lines_size, k_lines_numbers, k_chart_walls, k_log_done, k_log_undone) := rfl
theorem nb_BargeBasin_set (v1 : Int32) (v2 : Int32) (v3 : Int32) (k_status : Int32) (k_lines_sort : Nat → Int32) (k_lines_size : Nat → Int32) (k_lines_numbers : Nat → Int32) (k_chart_height : Int32) (k_chart_walls : Int64) (k_chart_taken : Int64) (k_log_done : Int32) (k_log_undone : Int32) : f_BargeBasin_set v1 v2 v3 k_status k_lines_sort k_lines_size k_lines_numbers 0 k_chart_height k_chart_walls k_chart_taken k_log_done k_log_undone = some (0, 1, k_lines_numbers, k_chart_walls, k_log_done, k_log_undone) := rfl
theorem nb_BargeBasin_get (v1 : Int32) (v2 : Int32) (k_status : Int32) (k_lines_sort : Nat → Int32) (k_lines_size : Nat → Int32) (k_lines_numbers : Nat → Int32) (k_chart_height : Int32) : f_BargeBasin_get v1 v2 k_status k_lines_sort k_lines_size k_lines_numbers 0 k_chart_height = some (-1, 1) := rfl
theorem nb_BargeBasin_carry (v1 : Int32) (v2 : Int32) (v3 : Int32) (v4 : Int32) (v5 : Int32) (k_status : Int32) (k_lines_sort : Nat → Int32) (k_lines_size : Nat → Int32) (k_lines_numbers : Nat → Int32) (k_lines_carried : Nat → Int32) (k_chart_height : Int32) (k_chart_walls : Int64) (k_chart_taken : Int64) (k_log_done : Int32) (k_log_undone : Int32) : f_BargeBasin_carry v1 v2 v3 v4 v5 k_status k_lines_sort k_lines_size k_lines_numbers k_lines_carried 0 k_chart_height k_chart_walls k_chart_taken k_log_done k_log_undone = some (0, 1, k_lines_numbers, k_lines_carried, k_chart_walls, k_log_done, k_log_undone) := rfl
theorem nb_BargeBasin_tear (v1 : Int32) (k_status : Int32) (k_lines_sort : Nat → Int32) (k_lines_size : Nat → Int32) (k_lines_numbers : Nat → Int32) (k_chart_height : Int32) (k_chart_walls : Int64) (k_log_done : Int32) (k_log_undone : Int32) : f_BargeBasin_tear v1 k_status k_lines_sort k_lines_size k_lines_numbers 0 k_chart_height k_chart_walls k_log_done k_log_undone = some (0, 1, k_lines_sort, k_chart_walls, k_log_done, k_log_undone) := rfl
theorem nb_BargeBasin_barge (v1 : Int32) (v2 : Int32) (v3 : Int32) (v4 : Int32) (v5 : Int32) (k_status : Int32) (k_chart_height : Int32) (k_chart_barges : Int32) (k_chart_walls : Int64) (k_chart_taken : Int64) (k_chart_kind : Nat → Int32) (k_chart_place : Nat → Int32) (k_chart_length : Nat → Int32) (k_chart_gate : Nat → Int32) (k_chart_across : Nat → Int32) (k_chart_wide : Nat → Int32) (k_chart_high : Nat → Int32) (k_chart_shape : Nat → Int64) (k_log_done : Int32) (k_log_undone : Int32) : f_BargeBasin_barge v1 v2 v3 v4 v5 k_status 0 k_chart_height k_chart_barges k_chart_walls k_chart_taken k_chart_kind k_chart_place k_chart_length k_chart_gate k_chart_across k_chart_wide k_chart_high k_chart_shape k_log_done k_log_undone = some (-1, 1, k_chart_barges, k_chart_taken, k_chart_kind, k_chart_place, k_chart_length, k_chart_gate, k_chart_across, k_chart_wide, k_chart_high, k_chart_shape, k_log_done, k_log_undone) := rfl
theorem nb_BargeBasin_gate (v1 : Int32) (v2 : Int32) (v3 : Int32) (k_status : Int32) (k_chart_height : Int32) (k_chart_barges : Int32) (k_chart_kind : Nat → Int32) (k_chart_place : Nat → Int32) (k_chart_gate : Nat → Int32) (k_chart_across : Nat → Int32) (k_chart_wide : Nat → Int32) (k_chart_high : Nat → Int32) (k_log_done : Int32) (k_log_undone : Int32) : f_BargeBasin_gate v1 v2 v3 k_status 0 k_chart_height k_chart_barges k_chart_kind k_chart_place k_chart_gate k_chart_across k_chart_wide k_chart_high k_log_done k_log_undone = some (0, 1, k_chart_gate, k_log_done, k_log_undone) := rfl
theorem nb_BargeBasin_lift (v1 : Int32) (k_status : Int32) (k_chart_barges : Int32) (k_chart_taken : Int64) (k_chart_kind : Nat → Int32) (k_chart_place : Nat → Int32) (k_chart_length : Nat → Int32) (k_chart_gate : Nat → Int32) (k_chart_across : Nat → Int32) (k_chart_wide : Nat → Int32) (k_chart_high : Nat → Int32) (k_chart_shape : Nat → Int64) (k_log_done : Int32) (k_log_undone : Int32) : f_BargeBasin_lift v1 k_status 0 k_chart_barges k_chart_taken k_chart_kind k_chart_place k_chart_length k_chart_gate k_chart_across k_chart_wide k_chart_high k_chart_shape k_log_done k_log_undone = some (0, 1, k_chart_barges, k_chart_taken, k_chart_kind, k_chart_place, k_chart_length, k_chart_gate, k_chart_across, k_chart_wide, k_chart_high, k_chart_shape, k_log_done, k_log_undone) := rfl
theorem nb_BargeBasin_lies (v1 : Int32) (v2 : Int32) (k_status : Int32) (k_chart_barges : Int32) (k_chart_kind : Nat → Int32) (k_chart_place : Nat → Int32) (k_chart_length : Nat → Int32) (k_chart_gate : Nat → Int32) (k_chart_across : Nat → Int32) : f_BargeBasin_lies v1 v2 k_status 0 k_chart_barges k_chart_kind k_chart_place k_chart_length k_chart_gate k_chart_across = some (-1, 1) := rfl
theorem nb_BargeBasin_field (v1 : Int32) (v2 : Int32) (k_status : Int32) (k_chart_height : Int32) (k_chart_barges : Int32) (k_chart_walls : Int64) (k_chart_place : Nat → Int32) (k_chart_shape : Nat → Int64) : f_BargeBasin_field v1 v2 k_status 0 k_chart_height k_chart_barges k_chart_walls k_chart_place k_chart_shape = some (-1, 1) := rfl
theorem nb_BargeBasin_count (v1 : Int32) (k_status : Int32) (k_chart_height : Int32) (k_chart_barges : Int32) (k_chart_walls : Int64) (k_chart_taken : Int64) (k_chart_kind : Nat → Int32) (k_chart_place : Nat → Int32) (k_chart_gate : Nat → Int32) (k_log_done : Int32) (k_log_undone : Int32) : f_BargeBasin_count v1 k_status 0 k_chart_height k_chart_barges k_chart_walls k_chart_taken k_chart_kind k_chart_place k_chart_gate k_log_done k_log_undone = some (-1, 1) := rfl
theorem nb_BargeBasin_room (v1 : Int32) (v2 : Int32) (k_status : Int32) (k_chart_height : Int32) (k_chart_barges : Int32) (k_chart_walls : Int64) (k_chart_taken : Int64) (k_chart_kind : Nat → Int32) (k_chart_place : Nat → Int32) (k_chart_across : Nat → Int32) (k_chart_wide : Nat → Int32) (k_chart_high : Nat → Int32) (k_chart_shape : Nat → Int64) : f_BargeBasin_room v1 v2 k_status 0 k_chart_height k_chart_barges k_chart_walls k_chart_taken k_chart_kind k_chart_place k_chart_across k_chart_wide k_chart_high k_chart_shape = some (-1, 1) := rfl
theorem nb_BargeBasin_slide (v1 : Int32) (v2 : Int32) (v3 : Int32) (k_status : Int32) (k_whyStep : Int32) (k_whyReason : Int32) (k_whyBarge : Int32) (k_chart_height : Int32) (k_chart_barges : Int32) (k_chart_walls : Int64) (k_chart_taken : Int64) (k_chart_kind : Nat → Int32) (k_chart_place : Nat → Int32) (k_chart_across : Nat → Int32) (k_chart_wide : Nat → Int32) (k_chart_high : Nat → Int32) (k_chart_shape : Nat → Int64) (k_log_first : Int32) (k_log_done : Int32) (k_log_undone : Int32) (k_log_moves : Nat → Int32) : f_BargeBasin_slide v1 v2 v3 k_status k_whyStep k_whyReason k_whyBarge 0 k_chart_height k_chart_barges k_chart_walls k_chart_taken k_chart_kind k_chart_place k_chart_across k_chart_wide k_chart_high k_chart_shape k_log_first k_log_done k_log_undone k_log_moves = some (0, 1, k_whyStep, k_whyReason, k_whyBarge, k_chart_taken, k_chart_place, k_log_first, k_log_done, k_log_undone, k_log_moves) := rfl
theorem nb_BargeBasin_undo (k_status : Int32) (k_chart_taken : Int64) (k_chart_place : Nat → Int32) (k_chart_shape : Nat → Int64) (k_log_first : Int32) (k_log_done : Int32) (k_log_undone : Int32) (k_log_moves : Nat → Int32) : f_BargeBasin_undo k_status 0 k_chart_taken k_chart_place k_chart_shape k_log_first k_log_done k_log_undone k_log_moves = some (0, 1, k_chart_taken, k_chart_place, k_log_done, k_log_undone) := rfl
theorem nb_BargeBasin_redo (k_status : Int32) (k_chart_taken : Int64) (k_chart_place : Nat → Int32) (k_chart_shape : Nat → Int64) (k_log_first : Int32) (k_log_done : Int32) (k_log_undone : Int32) (k_log_moves : Nat → Int32) : f_BargeBasin_redo k_status 0 k_chart_taken k_chart_place k_chart_shape k_log_first k_log_done k_log_undone k_log_moves = some (0, 1, k_chart_taken, k_chart_place, k_log_done, k_log_undone) := rfl
theorem nb_BargeBasin_fewest_plan00_search00 (k_status : Int32) : f_BargeBasin_fewest_plan00_search00 k_status 0 = some (-1, 1) := rfl
theorem nb_BargeBasin_fewest_plan00_search11 (k_status : Int32) (k_chart_height : Int32) (k_chart_barges : Int32) (k_chart_walls : Int64) (k_chart_taken : Int64) (k_chart_kind : Nat → Int32) (k_chart_place : Nat → Int32) (k_chart_length : Nat → Int32) (k_chart_gate : Nat → Int32) (k_chart_across : Nat → Int32) (k_chart_wide : Nat → Int32) (k_chart_high : Nat → Int32) (k_chart_shape : Nat → Int64) (k_search_found : Int32) (k_search_queued : Int32) (k_search_spent : Int32) (k_search_board_width : Int32) (k_search_board_height : Int32) (k_search_board_barges : Int32) (k_search_board_walls : Int64) (k_search_board_taken : Int64) (k_search_board_kind : Nat → Int32) (k_search_board_place : Nat → Int32) (k_search_board_length : Nat → Int32) (k_search_board_gate : Nat → Int32) (k_search_board_across : Nat → Int32) (k_search_board_wide : Nat → Int32) (k_search_board_high : Nat → Int32) (k_search_board_shape : Nat → Int64) (k_search_low : Nat → Int64) (k_search_high : Nat → Int64) (k_search_slots : Nat → Int32) (k_search_slotFor : Nat → Int32) (k_search_moves : Nat → Int32) (k_search_distance : Nat → Int32) (k_search_queue : Nat → Int32) : f_BargeBasin_fewest_plan00_search11 k_status 0 k_chart_height k_chart_barges k_chart_walls k_chart_taken k_chart_kind k_chart_place k_chart_length k_chart_gate k_chart_across k_chart_wide k_chart_high k_chart_shape k_search_found k_search_queued k_search_spent k_search_board_width k_search_board_height k_search_board_barges k_search_board_walls k_search_board_taken k_search_board_kind k_search_board_place k_search_board_length k_search_board_gate k_search_board_across k_search_board_wide k_search_board_high k_search_board_shape k_search_low k_search_high k_search_slots k_search_slotFor k_search_moves k_search_distance k_search_queue = some (-1, 1, k_search_found, k_search_queued, k_search_spent, k_search_board_width, k_search_board_height, k_search_board_barges, k_search_board_walls, k_search_board_taken, k_search_board_kind, k_search_board_place, k_search_board_length, k_search_board_gate, k_search_board_across, k_search_board_wide, k_search_board_high, k_search_board_shape, k_search_low, k_search_high, k_search_slots, k_search_slotFor, k_search_moves, k_search_distance, k_search_queue) := rfl
theorem nb_BargeBasin_fewest_plan11_search00 (k_status : Int32) : f_BargeBasin_fewest_plan11_search00 k_status 0 = some (-1, 1) := rfl
theorem nb_BargeBasin_fewest_plan11_search11 (k_status : Int32) (k_chart_height : Int32) (k_chart_barges : Int32) (k_chart_walls : Int64) (k_chart_taken : Int64) (k_chart_kind : Nat → Int32) (k_chart_place : Nat → Int32) (k_chart_length : Nat → Int32) (k_chart_gate : Nat → Int32) (k_chart_across : Nat → Int32) (k_chart_wide : Nat → Int32) (k_chart_high : Nat → Int32) (k_chart_shape : Nat → Int64) (k_search_found : Int32) (k_search_queued : Int32) (k_search_spent : Int32) (k_search_board_width : Int32) (k_search_board_height : Int32) (k_search_board_barges : Int32) (k_search_board_walls : Int64) (k_search_board_taken : Int64) (k_search_board_kind : Nat → Int32) (k_search_board_place : Nat → Int32) (k_search_board_length : Nat → Int32) (k_search_board_gate : Nat → Int32) (k_search_board_across : Nat → Int32) (k_search_board_wide : Nat → Int32) (k_search_board_high : Nat → Int32) (k_search_board_shape : Nat → Int64) (k_search_low : Nat → Int64) (k_search_high : Nat → Int64) (k_search_slots : Nat → Int32) (k_search_slotFor : Nat → Int32) (k_search_moves : Nat → Int32) (k_search_distance : Nat → Int32) (k_search_queue : Nat → Int32) (k_plan_size : Int32) (k_plan_moves : Nat → Int32) : f_BargeBasin_fewest_plan11_search11 k_status 0 k_chart_height k_chart_barges k_chart_walls k_chart_taken k_chart_kind k_chart_place k_chart_length k_chart_gate k_chart_across k_chart_wide k_chart_high k_chart_shape k_search_found k_search_queued k_search_spent k_search_board_width k_search_board_height k_search_board_barges k_search_board_walls k_search_board_taken k_search_board_kind k_search_board_place k_search_board_length k_search_board_gate k_search_board_across k_search_board_wide k_search_board_high k_search_board_shape k_search_low k_search_high k_search_slots k_search_slotFor k_search_moves k_search_distance k_search_queue k_plan_size k_plan_moves = some (-1, 1, k_search_found, k_search_queued, k_search_spent, k_search_board_width, k_search_board_height, k_search_board_barges, k_search_board_walls, k_search_board_taken, k_search_board_kind, k_search_board_place, k_search_board_length, k_search_board_gate, k_search_board_across, k_search_board_wide, k_search_board_high, k_search_board_shape, k_search_low, k_search_high, k_search_slots, k_search_slotFor, k_search_moves, k_search_distance, k_search_queue, k_plan_size, k_plan_moves) := rfl
theorem nb_BargeBasin_fewestSteps_plan00_search00 (k_status : Int32) : f_BargeBasin_fewestSteps_plan00_search00 k_status 0 = some (-1, 1) := rfl
theorem nb_BargeBasin_fewestSteps_plan00_search11 (k_status : Int32) (k_chart_height : Int32) (k_chart_barges : Int32) (k_chart_walls : Int64) (k_chart_taken : Int64) (k_chart_kind : Nat → Int32) (k_chart_place : Nat → Int32) (k_chart_length : Nat → Int32) (k_chart_gate : Nat → Int32) (k_chart_across : Nat → Int32) (k_chart_wide : Nat → Int32) (k_chart_high : Nat → Int32) (k_chart_shape : Nat → Int64) (k_search_found : Int32) (k_search_queued : Int32) (k_search_spent : Int32) (k_search_board_width : Int32) (k_search_board_height : Int32) (k_search_board_barges : Int32) (k_search_board_walls : Int64) (k_search_board_taken : Int64) (k_search_board_kind : Nat → Int32) (k_search_board_place : Nat → Int32) (k_search_board_length : Nat → Int32) (k_search_board_gate : Nat → Int32) (k_search_board_across : Nat → Int32) (k_search_board_wide : Nat → Int32) (k_search_board_high : Nat → Int32) (k_search_board_shape : Nat → Int64) (k_search_low : Nat → Int64) (k_search_high : Nat → Int64) (k_search_slots : Nat → Int32) (k_search_slotFor : Nat → Int32) (k_search_moves : Nat → Int32) (k_search_distance : Nat → Int32) (k_search_queue : Nat → Int32) : f_BargeBasin_fewestSteps_plan00_search11 k_status 0 k_chart_height k_chart_barges k_chart_walls k_chart_taken k_chart_kind k_chart_place k_chart_length k_chart_gate k_chart_across k_chart_wide k_chart_high k_chart_shape k_search_found k_search_queued k_search_spent k_search_board_width k_search_board_height k_search_board_barges k_search_board_walls k_search_board_taken k_search_board_kind k_search_board_place k_search_board_length k_search_board_gate k_search_board_across k_search_board_wide k_search_board_high k_search_board_shape k_search_low k_search_high k_search_slots k_search_slotFor k_search_moves k_search_distance k_search_queue = some (-1, 1, k_search_found, k_search_queued, k_search_spent, k_search_board_width, k_search_board_height, k_search_board_barges, k_search_board_walls, k_search_board_taken, k_search_board_kind, k_search_board_place, k_search_board_length, k_search_board_gate, k_search_board_across, k_search_board_wide, k_search_board_high, k_search_board_shape, k_search_low, k_search_high, k_search_slots, k_search_slotFor, k_search_moves, k_search_distance, k_search_queue) := rfl
theorem nb_BargeBasin_fewestSteps_plan11_search00 (k_status : Int32) : f_BargeBasin_fewestSteps_plan11_search00 k_status 0 = some (-1, 1) := rfl
theorem nb_BargeBasin_fewestSteps_plan11_search11 (k_status : Int32) (k_chart_height : Int32) (k_chart_barges : Int32) (k_chart_walls : Int64) (k_chart_taken : Int64) (k_chart_kind : Nat → Int32) (k_chart_place : Nat → Int32) (k_chart_length : Nat → Int32) (k_chart_gate : Nat → Int32) (k_chart_across : Nat → Int32) (k_chart_wide : Nat → Int32) (k_chart_high : Nat → Int32) (k_chart_shape : Nat → Int64) (k_search_found : Int32) (k_search_queued : Int32) (k_search_spent : Int32) (k_search_board_width : Int32) (k_search_board_height : Int32) (k_search_board_barges : Int32) (k_search_board_walls : Int64) (k_search_board_taken : Int64) (k_search_board_kind : Nat → Int32) (k_search_board_place : Nat → Int32) (k_search_board_length : Nat → Int32) (k_search_board_gate : Nat → Int32) (k_search_board_across : Nat → Int32) (k_search_board_wide : Nat → Int32) (k_search_board_high : Nat → Int32) (k_search_board_shape : Nat → Int64) (k_search_low : Nat → Int64) (k_search_high : Nat → Int64) (k_search_slots : Nat → Int32) (k_search_slotFor : Nat → Int32) (k_search_moves : Nat → Int32) (k_search_distance : Nat → Int32) (k_search_queue : Nat → Int32) (k_plan_size : Int32) (k_plan_moves : Nat → Int32) : f_BargeBasin_fewestSteps_plan11_search11 k_status 0 k_chart_height k_chart_barges k_chart_walls k_chart_taken k_chart_kind k_chart_place k_chart_length k_chart_gate k_chart_across k_chart_wide k_chart_high k_chart_shape k_search_found k_search_queued k_search_spent k_search_board_width k_search_board_height k_search_board_barges k_search_board_walls k_search_board_taken k_search_board_kind k_search_board_place k_search_board_length k_search_board_gate k_search_board_across k_search_board_wide k_search_board_high k_search_board_shape k_search_low k_search_high k_search_slots k_search_slotFor k_search_moves k_search_distance k_search_queue k_plan_size k_plan_moves = some (-1, 1, k_search_found, k_search_queued, k_search_spent, k_search_board_width, k_search_board_height, k_search_board_barges, k_search_board_walls, k_search_board_taken, k_search_board_kind, k_search_board_place, k_search_board_length, k_search_board_gate, k_search_board_across, k_search_board_wide, k_search_board_high, k_search_board_shape, k_search_low, k_search_high, k_search_slots, k_search_slotFor, k_search_moves, k_search_distance, k_search_queue, k_plan_size, k_plan_moves) := rfl
theorem nb_BargeBasin_follow_plan00 (v1 : Int32) (v2 : Int32) (k_status : Int32) : f_BargeBasin_follow_plan00 v1 v2 k_status 0 = some (-1, 1) := rfl
theorem nb_BargeBasin_follow_plan11 (v1 : Int32) (v2 : Int32) (k_status : Int32) (k_chart_height : Int32) (k_chart_barges : Int32) (k_chart_walls : Int64) (k_chart_taken : Int64) (k_chart_kind : Nat → Int32) (k_chart_place : Nat → Int32) (k_chart_across : Nat → Int32) (k_chart_wide : Nat → Int32) (k_chart_high : Nat → Int32) (k_chart_shape : Nat → Int64) (k_log_first : Int32) (k_log_done : Int32) (k_log_undone : Int32) (k_log_moves : Nat → Int32) (k_plan_size : Int32) (k_plan_moves : Nat → Int32) : f_BargeBasin_follow_plan11 v1 v2 k_status 0 k_chart_height k_chart_barges k_chart_walls k_chart_taken k_chart_kind k_chart_place k_chart_across k_chart_wide k_chart_high k_chart_shape k_log_first k_log_done k_log_undone k_log_moves k_plan_size k_plan_moves = some (-1, 1, k_chart_taken, k_chart_place, k_log_first, k_log_done, k_log_undone, k_log_moves) := rfl
theorem nb_BargeBasin_all_search00 (k_status : Int32) : f_BargeBasin_all_search00 k_status 0 = some (-1, 1) := rfl
theorem nb_BargeBasin_all_search11 (k_status : Int32) (k_chart_height : Int32) (k_chart_barges : Int32) (k_chart_walls : Int64) (k_chart_taken : Int64) (k_chart_kind : Nat → Int32) (k_chart_place : Nat → Int32) (k_chart_length : Nat → Int32) (k_chart_gate : Nat → Int32) (k_chart_across : Nat → Int32) (k_chart_wide : Nat → Int32) (k_chart_high : Nat → Int32) (k_chart_shape : Nat → Int64) (k_search_found : Int32) (k_search_queued : Int32) (k_search_spent : Int32) (k_search_board_width : Int32) (k_search_board_height : Int32) (k_search_board_barges : Int32) (k_search_board_walls : Int64) (k_search_board_taken : Int64) (k_search_board_kind : Nat → Int32) (k_search_board_place : Nat → Int32) (k_search_board_length : Nat → Int32) (k_search_board_gate : Nat → Int32) (k_search_board_across : Nat → Int32) (k_search_board_wide : Nat → Int32) (k_search_board_high : Nat → Int32) (k_search_board_shape : Nat → Int64) (k_search_low : Nat → Int64) (k_search_high : Nat → Int64) (k_search_slots : Nat → Int32) (k_search_slotFor : Nat → Int32) (k_search_moves : Nat → Int32) (k_search_distance : Nat → Int32) (k_search_queue : Nat → Int32) (k_search_ways : Nat → Int64) : f_BargeBasin_all_search11 k_status 0 k_chart_height k_chart_barges k_chart_walls k_chart_taken k_chart_kind k_chart_place k_chart_length k_chart_gate k_chart_across k_chart_wide k_chart_high k_chart_shape k_search_found k_search_queued k_search_spent k_search_board_width k_search_board_height k_search_board_barges k_search_board_walls k_search_board_taken k_search_board_kind k_search_board_place k_search_board_length k_search_board_gate k_search_board_across k_search_board_wide k_search_board_high k_search_board_shape k_search_low k_search_high k_search_slots k_search_slotFor k_search_moves k_search_distance k_search_queue k_search_ways = some (-1, 1, k_search_found, k_search_queued, k_search_spent, k_search_board_width, k_search_board_height, k_search_board_barges, k_search_board_walls, k_search_board_taken, k_search_board_kind, k_search_board_place, k_search_board_length, k_search_board_gate, k_search_board_across, k_search_board_wide, k_search_board_high, k_search_board_shape, k_search_low, k_search_high, k_search_slots, k_search_slotFor, k_search_moves, k_search_distance, k_search_queue, k_search_ways) := by
  have e : (-1 : Int32).toInt64 = -1 := by decide
  rw [← e]
  rfl
theorem nb_BargeBasin_must_search00 (v1 : Int32) (k_status : Int32) (k_chart_barges : Int32) : f_BargeBasin_must_search00 v1 k_status 0 k_chart_barges = some (-1, 1) := rfl
theorem nb_BargeBasin_must_search11 (v1 : Int32) (k_status : Int32) (k_chart_height : Int32) (k_chart_barges : Int32) (k_chart_walls : Int64) (k_chart_taken : Int64) (k_chart_kind : Nat → Int32) (k_chart_place : Nat → Int32) (k_chart_length : Nat → Int32) (k_chart_gate : Nat → Int32) (k_chart_across : Nat → Int32) (k_chart_wide : Nat → Int32) (k_chart_high : Nat → Int32) (k_chart_shape : Nat → Int64) (k_search_found : Int32) (k_search_queued : Int32) (k_search_spent : Int32) (k_search_board_width : Int32) (k_search_board_height : Int32) (k_search_board_barges : Int32) (k_search_board_walls : Int64) (k_search_board_taken : Int64) (k_search_board_kind : Nat → Int32) (k_search_board_place : Nat → Int32) (k_search_board_length : Nat → Int32) (k_search_board_gate : Nat → Int32) (k_search_board_across : Nat → Int32) (k_search_board_wide : Nat → Int32) (k_search_board_high : Nat → Int32) (k_search_board_shape : Nat → Int64) (k_search_low : Nat → Int64) (k_search_high : Nat → Int64) (k_search_slots : Nat → Int32) (k_search_slotFor : Nat → Int32) (k_search_moves : Nat → Int32) (k_search_distance : Nat → Int32) (k_search_queue : Nat → Int32) (k_search_ways : Nat → Int64) : f_BargeBasin_must_search11 v1 k_status 0 k_chart_height k_chart_barges k_chart_walls k_chart_taken k_chart_kind k_chart_place k_chart_length k_chart_gate k_chart_across k_chart_wide k_chart_high k_chart_shape k_search_found k_search_queued k_search_spent k_search_board_width k_search_board_height k_search_board_barges k_search_board_walls k_search_board_taken k_search_board_kind k_search_board_place k_search_board_length k_search_board_gate k_search_board_across k_search_board_wide k_search_board_high k_search_board_shape k_search_low k_search_high k_search_slots k_search_slotFor k_search_moves k_search_distance k_search_queue k_search_ways = some (-1, 1, k_search_found, k_search_queued, k_search_spent, k_search_board_width, k_search_board_height, k_search_board_barges, k_search_board_walls, k_search_board_taken, k_search_board_kind, k_search_board_place, k_search_board_length, k_search_board_gate, k_search_board_across, k_search_board_wide, k_search_board_high, k_search_board_shape, k_search_low, k_search_high, k_search_slots, k_search_slotFor, k_search_moves, k_search_distance, k_search_queue, k_search_ways) := rfl
theorem nb_BargeBasin_low (k_status : Int32) (k_chart_barges : Int32) (k_chart_kind : Nat → Int32) (k_chart_place : Nat → Int32) (k_chart_gate : Nat → Int32) (k_chart_across : Nat → Int32) (k_chart_shape : Nat → Int64) : f_BargeBasin_low k_status 0 k_chart_barges k_chart_kind k_chart_place k_chart_gate k_chart_across k_chart_shape = some (-1, 1) := rfl
theorem nb_BargeBasin_reach_search00 (k_status : Int32) : f_BargeBasin_reach_search00 k_status 0 = some (-1, 1) := rfl
theorem nb_BargeBasin_reach_search11 (k_status : Int32) (k_chart_height : Int32) (k_chart_barges : Int32) (k_chart_walls : Int64) (k_chart_taken : Int64) (k_chart_kind : Nat → Int32) (k_chart_place : Nat → Int32) (k_chart_length : Nat → Int32) (k_chart_gate : Nat → Int32) (k_chart_across : Nat → Int32) (k_chart_wide : Nat → Int32) (k_chart_high : Nat → Int32) (k_chart_shape : Nat → Int64) (k_search_found : Int32) (k_search_spent : Int32) (k_search_board_width : Int32) (k_search_board_height : Int32) (k_search_board_barges : Int32) (k_search_board_walls : Int64) (k_search_board_taken : Int64) (k_search_board_kind : Nat → Int32) (k_search_board_place : Nat → Int32) (k_search_board_length : Nat → Int32) (k_search_board_gate : Nat → Int32) (k_search_board_across : Nat → Int32) (k_search_board_wide : Nat → Int32) (k_search_board_high : Nat → Int32) (k_search_board_shape : Nat → Int64) (k_search_low : Nat → Int64) (k_search_high : Nat → Int64) (k_search_slots : Nat → Int32) (k_search_slotFor : Nat → Int32) (k_search_moves : Nat → Int32) : f_BargeBasin_reach_search11 k_status 0 k_chart_height k_chart_barges k_chart_walls k_chart_taken k_chart_kind k_chart_place k_chart_length k_chart_gate k_chart_across k_chart_wide k_chart_high k_chart_shape k_search_found k_search_spent k_search_board_width k_search_board_height k_search_board_barges k_search_board_walls k_search_board_taken k_search_board_kind k_search_board_place k_search_board_length k_search_board_gate k_search_board_across k_search_board_wide k_search_board_high k_search_board_shape k_search_low k_search_high k_search_slots k_search_slotFor k_search_moves = some (-1, 1, k_search_found, k_search_spent, k_search_board_width, k_search_board_height, k_search_board_barges, k_search_board_walls, k_search_board_taken, k_search_board_kind, k_search_board_place, k_search_board_length, k_search_board_gate, k_search_board_across, k_search_board_wide, k_search_board_high, k_search_board_shape, k_search_low, k_search_high, k_search_slots, k_search_slotFor, k_search_moves) := rfl
theorem nb_BargeBasin_far_search00 (k_status : Int32) : f_BargeBasin_far_search00 k_status 0 = some (-1, 1) := rfl
theorem nb_BargeBasin_far_search11 (k_status : Int32) (k_chart_height : Int32) (k_chart_barges : Int32) (k_chart_walls : Int64) (k_chart_taken : Int64) (k_chart_kind : Nat → Int32) (k_chart_place : Nat → Int32) (k_chart_length : Nat → Int32) (k_chart_gate : Nat → Int32) (k_chart_across : Nat → Int32) (k_chart_wide : Nat → Int32) (k_chart_high : Nat → Int32) (k_chart_shape : Nat → Int64) (k_search_found : Int32) (k_search_queued : Int32) (k_search_spent : Int32) (k_search_board_width : Int32) (k_search_board_height : Int32) (k_search_board_barges : Int32) (k_search_board_walls : Int64) (k_search_board_taken : Int64) (k_search_board_kind : Nat → Int32) (k_search_board_place : Nat → Int32) (k_search_board_length : Nat → Int32) (k_search_board_gate : Nat → Int32) (k_search_board_across : Nat → Int32) (k_search_board_wide : Nat → Int32) (k_search_board_high : Nat → Int32) (k_search_board_shape : Nat → Int64) (k_search_low : Nat → Int64) (k_search_high : Nat → Int64) (k_search_slots : Nat → Int32) (k_search_slotFor : Nat → Int32) (k_search_moves : Nat → Int32) (k_search_distance : Nat → Int32) (k_search_queue : Nat → Int32) : f_BargeBasin_far_search11 k_status 0 k_chart_height k_chart_barges k_chart_walls k_chart_taken k_chart_kind k_chart_place k_chart_length k_chart_gate k_chart_across k_chart_wide k_chart_high k_chart_shape k_search_found k_search_queued k_search_spent k_search_board_width k_search_board_height k_search_board_barges k_search_board_walls k_search_board_taken k_search_board_kind k_search_board_place k_search_board_length k_search_board_gate k_search_board_across k_search_board_wide k_search_board_high k_search_board_shape k_search_low k_search_high k_search_slots k_search_slotFor k_search_moves k_search_distance k_search_queue = some (-1, 1, k_search_found, k_search_queued, k_search_spent, k_search_board_width, k_search_board_height, k_search_board_barges, k_search_board_walls, k_search_board_taken, k_search_board_kind, k_search_board_place, k_search_board_length, k_search_board_gate, k_search_board_across, k_search_board_wide, k_search_board_high, k_search_board_shape, k_search_low, k_search_high, k_search_slots, k_search_slotFor, k_search_moves, k_search_distance, k_search_queue) := rfl
theorem nb_BargeBasin_go_search00 (k_status : Int32) : f_BargeBasin_go_search00 k_status 0 = some (0, 1) := rfl
theorem nb_BargeBasin_go_search11 (k_status : Int32) (k_chart_height : Int32) (k_chart_barges : Int32) (k_chart_walls : Int64) (k_chart_taken : Int64) (k_chart_kind : Nat → Int32) (k_chart_place : Nat → Int32) (k_chart_length : Nat → Int32) (k_chart_gate : Nat → Int32) (k_chart_across : Nat → Int32) (k_chart_wide : Nat → Int32) (k_chart_high : Nat → Int32) (k_chart_shape : Nat → Int64) (k_log_done : Int32) (k_log_undone : Int32) (k_search_found : Int32) (k_search_queued : Int32) (k_search_spent : Int32) (k_search_board_width : Int32) (k_search_board_height : Int32) (k_search_board_barges : Int32) (k_search_board_walls : Int64) (k_search_board_taken : Int64) (k_search_board_kind : Nat → Int32) (k_search_board_place : Nat → Int32) (k_search_board_length : Nat → Int32) (k_search_board_gate : Nat → Int32) (k_search_board_across : Nat → Int32) (k_search_board_wide : Nat → Int32) (k_search_board_high : Nat → Int32) (k_search_board_shape : Nat → Int64) (k_search_low : Nat → Int64) (k_search_high : Nat → Int64) (k_search_slots : Nat → Int32) (k_search_slotFor : Nat → Int32) (k_search_moves : Nat → Int32) (k_search_distance : Nat → Int32) (k_search_queue : Nat → Int32) : f_BargeBasin_go_search11 k_status 0 k_chart_height k_chart_barges k_chart_walls k_chart_taken k_chart_kind k_chart_place k_chart_length k_chart_gate k_chart_across k_chart_wide k_chart_high k_chart_shape k_log_done k_log_undone k_search_found k_search_queued k_search_spent k_search_board_width k_search_board_height k_search_board_barges k_search_board_walls k_search_board_taken k_search_board_kind k_search_board_place k_search_board_length k_search_board_gate k_search_board_across k_search_board_wide k_search_board_high k_search_board_shape k_search_low k_search_high k_search_slots k_search_slotFor k_search_moves k_search_distance k_search_queue = some (0, 1, k_chart_taken, k_chart_place, k_log_done, k_log_undone, k_search_found, k_search_queued, k_search_spent, k_search_board_width, k_search_board_height, k_search_board_barges, k_search_board_walls, k_search_board_taken, k_search_board_kind, k_search_board_place, k_search_board_length, k_search_board_gate, k_search_board_across, k_search_board_wide, k_search_board_high, k_search_board_shape, k_search_low, k_search_high, k_search_slots, k_search_slotFor, k_search_moves, k_search_distance, k_search_queue) := rfl
theorem nb_BargeBasin_trim_search00 (k_status : Int32) : f_BargeBasin_trim_search00 k_status 0 = some (-1, 1) := rfl
theorem nb_BargeBasin_trim_search11 (k_status : Int32) (k_lines_sort : Nat → Int32) (k_lines_size : Nat → Int32) (k_lines_numbers : Nat → Int32) (k_chart_height : Int32) (k_chart_barges : Int32) (k_chart_walls : Int64) (k_chart_taken : Int64) (k_chart_kind : Nat → Int32) (k_chart_place : Nat → Int32) (k_chart_length : Nat → Int32) (k_chart_gate : Nat → Int32) (k_chart_across : Nat → Int32) (k_chart_wide : Nat → Int32) (k_chart_high : Nat → Int32) (k_chart_shape : Nat → Int64) (k_trial_width : Int32) (k_trial_height : Int32) (k_trial_barges : Int32) (k_trial_walls : Int64) (k_trial_taken : Int64) (k_trial_kind : Nat → Int32) (k_trial_place : Nat → Int32) (k_trial_length : Nat → Int32) (k_trial_gate : Nat → Int32) (k_trial_across : Nat → Int32) (k_trial_wide : Nat → Int32) (k_trial_high : Nat → Int32) (k_trial_shape : Nat → Int64) (k_log_done : Int32) (k_log_undone : Int32) (k_search_found : Int32) (k_search_queued : Int32) (k_search_spent : Int32) (k_search_board_width : Int32) (k_search_board_height : Int32) (k_search_board_barges : Int32) (k_search_board_walls : Int64) (k_search_board_taken : Int64) (k_search_board_kind : Nat → Int32) (k_search_board_place : Nat → Int32) (k_search_board_length : Nat → Int32) (k_search_board_gate : Nat → Int32) (k_search_board_across : Nat → Int32) (k_search_board_wide : Nat → Int32) (k_search_board_high : Nat → Int32) (k_search_board_shape : Nat → Int64) (k_search_low : Nat → Int64) (k_search_high : Nat → Int64) (k_search_slots : Nat → Int32) (k_search_slotFor : Nat → Int32) (k_search_moves : Nat → Int32) (k_search_distance : Nat → Int32) (k_search_queue : Nat → Int32) : f_BargeBasin_trim_search11 k_status k_lines_sort k_lines_size k_lines_numbers 0 k_chart_height k_chart_barges k_chart_walls k_chart_taken k_chart_kind k_chart_place k_chart_length k_chart_gate k_chart_across k_chart_wide k_chart_high k_chart_shape k_trial_width k_trial_height k_trial_barges k_trial_walls k_trial_taken k_trial_kind k_trial_place k_trial_length k_trial_gate k_trial_across k_trial_wide k_trial_high k_trial_shape k_log_done k_log_undone k_search_found k_search_queued k_search_spent k_search_board_width k_search_board_height k_search_board_barges k_search_board_walls k_search_board_taken k_search_board_kind k_search_board_place k_search_board_length k_search_board_gate k_search_board_across k_search_board_wide k_search_board_high k_search_board_shape k_search_low k_search_high k_search_slots k_search_slotFor k_search_moves k_search_distance k_search_queue = some (-1, 1, k_lines_sort, k_lines_size, k_lines_numbers, k_chart_barges, k_chart_walls, k_chart_taken, k_chart_kind, k_chart_place, k_chart_length, k_chart_gate, k_chart_across, k_chart_wide, k_chart_high, k_chart_shape, k_trial_width, k_trial_height, k_trial_barges, k_trial_walls, k_trial_taken, k_trial_kind, k_trial_place, k_trial_length, k_trial_gate, k_trial_across, k_trial_wide, k_trial_high, k_trial_shape, k_log_done, k_log_undone, k_search_found, k_search_queued, k_search_spent, k_search_board_width, k_search_board_height, k_search_board_barges, k_search_board_walls, k_search_board_taken, k_search_board_kind, k_search_board_place, k_search_board_length, k_search_board_gate, k_search_board_across, k_search_board_wide, k_search_board_high, k_search_board_shape, k_search_low, k_search_high, k_search_slots, k_search_slotFor, k_search_moves, k_search_distance, k_search_queue) := rfl
theorem nb_BargeBasin_turn (v1 : Int32) (k_status : Int32) (k_lines_sort : Nat → Int32) (k_lines_size : Nat → Int32) (k_lines_numbers : Nat → Int32) (k_chart_height : Int32) (k_chart_barges : Int32) (k_chart_walls : Int64) (k_chart_taken : Int64) (k_chart_kind : Nat → Int32) (k_chart_place : Nat → Int32) (k_chart_length : Nat → Int32) (k_chart_gate : Nat → Int32) (k_chart_across : Nat → Int32) (k_chart_wide : Nat → Int32) (k_chart_high : Nat → Int32) (k_chart_shape : Nat → Int64) (k_log_done : Int32) (k_log_undone : Int32) : f_BargeBasin_turn v1 k_status k_lines_sort k_lines_size k_lines_numbers 0 k_chart_height k_chart_barges k_chart_walls k_chart_taken k_chart_kind k_chart_place k_chart_length k_chart_gate k_chart_across k_chart_wide k_chart_high k_chart_shape k_log_done k_log_undone = some (0, 1, k_lines_sort, k_lines_size, k_lines_numbers, 0, k_chart_height, k_chart_walls, k_chart_taken, k_chart_place, k_chart_gate, k_chart_across, k_chart_wide, k_chart_high, k_chart_shape, k_log_done, k_log_undone) := rfl
theorem nb_BargeBasin_keep_shx (v1 : Int32) (k_status : Int32) (k_shelves : Nat → Option Nat) : f_BargeBasin_keep_shx v1 k_status 0 k_shelves = some (0, 1) := rfl
theorem nb_BargeBasin_same_shx (v1 : Int32) (k_status : Int32) (k_shelves : Nat → Option Nat) : f_BargeBasin_same_shx v1 k_status 0 k_shelves = some (-1, 1) := rfl
theorem nb_BargeBasin_same_sh0 (v1 : Int32) (k_status : Int32) (k_shelves : Nat → Option Nat) : f_BargeBasin_same_sh0 v1 k_status 0 k_shelves = some (-1, 1) := rfl
theorem nb_BargeBasin_same_sh1 (a_sh : Nat) (v1 : Int32) (k_status : Int32) (k_chart_height : Int32) (k_chart_barges : Int32) (k_chart_walls : Int64) (k_chart_taken : Int64) (k_chart_kind : Nat → Int32) (k_chart_place : Nat → Int32) (k_chart_length : Nat → Int32) (k_chart_gate : Nat → Int32) (k_chart_across : Nat → Int32) (k_chart_shape : Nat → Int64) (k_trial_width : Int32) (k_trial_height : Int32) (k_trial_barges : Int32) (k_trial_walls : Int64) (k_trial_taken : Int64) (k_trial_kind : Nat → Int32) (k_trial_place : Nat → Int32) (k_trial_length : Nat → Int32) (k_trial_gate : Nat → Int32) (k_trial_across : Nat → Int32) (k_trial_wide : Nat → Int32) (k_trial_high : Nat → Int32) (k_trial_shape : Nat → Int64) (k_shelves : Nat → Option Nat) (k_sh_width : Int32) (k_sh_height : Int32) (k_sh_barges : Int32) (k_sh_walls : Int64) (k_sh_taken : Int64) (k_sh_kind : Nat → Int32) (k_sh_place : Nat → Int32) (k_sh_length : Nat → Int32) (k_sh_gate : Nat → Int32) (k_sh_across : Nat → Int32) (k_sh_wide : Nat → Int32) (k_sh_high : Nat → Int32) (k_sh_shape : Nat → Int64) : f_BargeBasin_same_sh1 a_sh v1 k_status 0 k_chart_height k_chart_barges k_chart_walls k_chart_taken k_chart_kind k_chart_place k_chart_length k_chart_gate k_chart_across k_chart_shape k_trial_width k_trial_height k_trial_barges k_trial_walls k_trial_taken k_trial_kind k_trial_place k_trial_length k_trial_gate k_trial_across k_trial_wide k_trial_high k_trial_shape k_shelves k_sh_width k_sh_height k_sh_barges k_sh_walls k_sh_taken k_sh_kind k_sh_place k_sh_length k_sh_gate k_sh_across k_sh_wide k_sh_high k_sh_shape = some (-1, 1, k_trial_width, k_trial_height, k_trial_barges, k_trial_walls, k_trial_taken, k_trial_kind, k_trial_place, k_trial_length, k_trial_gate, k_trial_across, k_trial_wide, k_trial_high, k_trial_shape) := rfl
theorem nb_BargeBasinModel_fewest (k_status : Int32) (k_thrown : Int32) (k_width : Int32) (k_height : Int32) (k_barges : Int32) (k_hasPlan : Int32) (k_planMany : Int32) (k_stands : Int32) (k_edges : Int32) (k_wall : Nat → Int32) (k_kind : Nat → Int32) (k_at : Nat → Int32) (k_size : Nat → Int32) (k_way : Nat → Int32) (k_gate : Nat → Int32) (k_planBarge : Nat → Int32) (k_planWay : Nat → Int32) (k_planSteps : Nat → Int32) (k_places : Nat → Int32) (k_heads : Nat → Int32) (k_chain : Nat → Int32) (k_depth : Nat → Int32) (k_parent : Nat → Int32) (k_byBarge : Nat → Int32) (k_byWay : Nat → Int32) (k_bySteps : Nat → Int32) (k_firstEdge : Nat → Int32) (k_edge : Nat → Int32) (k_edgeBarge : Nat → Int32) (k_who : Nat → Int32) (k_here : Nat → Int32) : f_BargeBasinModel_fewest k_status k_thrown 0 k_width k_height k_barges k_hasPlan k_planMany k_stands k_edges k_wall k_kind k_at k_size k_way k_gate k_planBarge k_planWay k_planSteps k_places k_heads k_chain k_depth k_parent k_byBarge k_byWay k_bySteps k_firstEdge k_edge k_edgeBarge k_who k_here = some (-1, 1, (0 : Int32), k_hasPlan, k_planMany, k_stands, k_edges, k_planBarge, k_planWay, k_planSteps, k_places, k_heads, k_chain, k_depth, k_parent, k_byBarge, k_byWay, k_bySteps, k_firstEdge, k_edge, k_edgeBarge, k_who, k_here) := rfl
theorem nb_BargeBasinModel_fewestSteps (k_status : Int32) (k_thrown : Int32) (k_width : Int32) (k_height : Int32) (k_barges : Int32) (k_hasPlan : Int32) (k_planMany : Int32) (k_stands : Int32) (k_edges : Int32) (k_wall : Nat → Int32) (k_kind : Nat → Int32) (k_at : Nat → Int32) (k_size : Nat → Int32) (k_way : Nat → Int32) (k_gate : Nat → Int32) (k_planBarge : Nat → Int32) (k_planWay : Nat → Int32) (k_planSteps : Nat → Int32) (k_places : Nat → Int32) (k_heads : Nat → Int32) (k_chain : Nat → Int32) (k_depth : Nat → Int32) (k_parent : Nat → Int32) (k_byBarge : Nat → Int32) (k_byWay : Nat → Int32) (k_bySteps : Nat → Int32) (k_firstEdge : Nat → Int32) (k_edge : Nat → Int32) (k_edgeBarge : Nat → Int32) (k_who : Nat → Int32) (k_here : Nat → Int32) : f_BargeBasinModel_fewestSteps k_status k_thrown 0 k_width k_height k_barges k_hasPlan k_planMany k_stands k_edges k_wall k_kind k_at k_size k_way k_gate k_planBarge k_planWay k_planSteps k_places k_heads k_chain k_depth k_parent k_byBarge k_byWay k_bySteps k_firstEdge k_edge k_edgeBarge k_who k_here = some (-1, 1, (0 : Int32), k_hasPlan, k_planMany, k_stands, k_edges, k_planBarge, k_planWay, k_planSteps, k_places, k_heads, k_chain, k_depth, k_parent, k_byBarge, k_byWay, k_bySteps, k_firstEdge, k_edge, k_edgeBarge, k_who, k_here) := rfl
theorem nb_BargeBasinModel_all (k_status : Int32) (k_thrown : Int32) (k_width : Int32) (k_height : Int32) (k_barges : Int32) (k_stands : Int32) (k_edges : Int32) (k_wall : Nat → Int32) (k_kind : Nat → Int32) (k_at : Nat → Int32) (k_size : Nat → Int32) (k_way : Nat → Int32) (k_gate : Nat → Int32) (k_places : Nat → Int32) (k_heads : Nat → Int32) (k_chain : Nat → Int32) (k_depth : Nat → Int32) (k_parent : Nat → Int32) (k_byBarge : Nat → Int32) (k_byWay : Nat → Int32) (k_bySteps : Nat → Int32) (k_firstEdge : Nat → Int32) (k_edge : Nat → Int32) (k_edgeBarge : Nat → Int32) (k_count : Nat → Int64) (k_who : Nat → Int32) (k_here : Nat → Int32) : f_BargeBasinModel_all k_status k_thrown 0 k_width k_height k_barges k_stands k_edges k_wall k_kind k_at k_size k_way k_gate k_places k_heads k_chain k_depth k_parent k_byBarge k_byWay k_bySteps k_firstEdge k_edge k_edgeBarge k_count k_who k_here = some (-1, 1, (0 : Int32), k_stands, k_edges, k_places, k_heads, k_chain, k_depth, k_parent, k_byBarge, k_byWay, k_bySteps, k_firstEdge, k_edge, k_edgeBarge, k_count, k_who, k_here) := rfl
theorem nb_BargeBasinModel_must (v1 : Int32) (k_status : Int32) (k_thrown : Int32) (k_width : Int32) (k_height : Int32) (k_barges : Int32) (k_stands : Int32) (k_edges : Int32) (k_wall : Nat → Int32) (k_kind : Nat → Int32) (k_at : Nat → Int32) (k_size : Nat → Int32) (k_way : Nat → Int32) (k_gate : Nat → Int32) (k_places : Nat → Int32) (k_heads : Nat → Int32) (k_chain : Nat → Int32) (k_depth : Nat → Int32) (k_parent : Nat → Int32) (k_byBarge : Nat → Int32) (k_byWay : Nat → Int32) (k_bySteps : Nat → Int32) (k_firstEdge : Nat → Int32) (k_edge : Nat → Int32) (k_edgeBarge : Nat → Int32) (k_count : Nat → Int64) (k_who : Nat → Int32) (k_here : Nat → Int32) : f_BargeBasinModel_must v1 k_status k_thrown 0 k_width k_height k_barges k_stands k_edges k_wall k_kind k_at k_size k_way k_gate k_places k_heads k_chain k_depth k_parent k_byBarge k_byWay k_bySteps k_firstEdge k_edge k_edgeBarge k_count k_who k_here = some (-1, 1, (0 : Int32), k_stands, k_edges, k_places, k_heads, k_chain, k_depth, k_parent, k_byBarge, k_byWay, k_bySteps, k_firstEdge, k_edge, k_edgeBarge, k_count, k_who, k_here) := rfl
theorem nb_BargeBasinModel_far (k_status : Int32) (k_thrown : Int32) (k_width : Int32) (k_height : Int32) (k_barges : Int32) (k_stands : Int32) (k_edges : Int32) (k_wall : Nat → Int32) (k_kind : Nat → Int32) (k_at : Nat → Int32) (k_size : Nat → Int32) (k_way : Nat → Int32) (k_gate : Nat → Int32) (k_places : Nat → Int32) (k_heads : Nat → Int32) (k_chain : Nat → Int32) (k_depth : Nat → Int32) (k_parent : Nat → Int32) (k_byBarge : Nat → Int32) (k_byWay : Nat → Int32) (k_bySteps : Nat → Int32) (k_far : Nat → Int32) (k_firstEdge : Nat → Int32) (k_edge : Nat → Int32) (k_edgeBarge : Nat → Int32) (k_who : Nat → Int32) (k_here : Nat → Int32) : f_BargeBasinModel_far k_status k_thrown 0 k_width k_height k_barges k_stands k_edges k_wall k_kind k_at k_size k_way k_gate k_places k_heads k_chain k_depth k_parent k_byBarge k_byWay k_bySteps k_far k_firstEdge k_edge k_edgeBarge k_who k_here = some (-1, 1, (0 : Int32), k_stands, k_edges, k_places, k_heads, k_chain, k_depth, k_parent, k_byBarge, k_byWay, k_bySteps, k_far, k_firstEdge, k_edge, k_edgeBarge, k_who, k_here) := rfl
theorem nb_BargeBasinModel_go (k_status : Int32) (k_thrown : Int32) (k_width : Int32) (k_height : Int32) (k_barges : Int32) (k_undoMany : Int32) (k_redoMany : Int32) (k_stands : Int32) (k_edges : Int32) (k_wall : Nat → Int32) (k_kind : Nat → Int32) (k_at : Nat → Int32) (k_size : Nat → Int32) (k_way : Nat → Int32) (k_gate : Nat → Int32) (k_places : Nat → Int32) (k_heads : Nat → Int32) (k_chain : Nat → Int32) (k_depth : Nat → Int32) (k_parent : Nat → Int32) (k_byBarge : Nat → Int32) (k_byWay : Nat → Int32) (k_bySteps : Nat → Int32) (k_far : Nat → Int32) (k_firstEdge : Nat → Int32) (k_edge : Nat → Int32) (k_edgeBarge : Nat → Int32) (k_who : Nat → Int32) (k_here : Nat → Int32) : f_BargeBasinModel_go k_status k_thrown 0 k_width k_height k_barges k_undoMany k_redoMany k_stands k_edges k_wall k_kind k_at k_size k_way k_gate k_places k_heads k_chain k_depth k_parent k_byBarge k_byWay k_bySteps k_far k_firstEdge k_edge k_edgeBarge k_who k_here = some (0, 1, (0 : Int32), k_undoMany, k_redoMany, k_stands, k_edges, k_at, k_places, k_heads, k_chain, k_depth, k_parent, k_byBarge, k_byWay, k_bySteps, k_far, k_firstEdge, k_edge, k_edgeBarge, k_who, k_here) := rfl
theorem nb_BargeBasinModel_reach (k_status : Int32) (k_thrown : Int32) (k_width : Int32) (k_height : Int32) (k_barges : Int32) (k_stands : Int32) (k_edges : Int32) (k_wall : Nat → Int32) (k_kind : Nat → Int32) (k_at : Nat → Int32) (k_size : Nat → Int32) (k_way : Nat → Int32) (k_places : Nat → Int32) (k_heads : Nat → Int32) (k_chain : Nat → Int32) (k_depth : Nat → Int32) (k_parent : Nat → Int32) (k_byBarge : Nat → Int32) (k_byWay : Nat → Int32) (k_bySteps : Nat → Int32) (k_firstEdge : Nat → Int32) (k_edge : Nat → Int32) (k_edgeBarge : Nat → Int32) (k_who : Nat → Int32) (k_here : Nat → Int32) : f_BargeBasinModel_reach k_status k_thrown 0 k_width k_height k_barges k_stands k_edges k_wall k_kind k_at k_size k_way k_places k_heads k_chain k_depth k_parent k_byBarge k_byWay k_bySteps k_firstEdge k_edge k_edgeBarge k_who k_here = some (-1, 1, (0 : Int32), k_stands, k_edges, k_places, k_heads, k_chain, k_depth, k_parent, k_byBarge, k_byWay, k_bySteps, k_firstEdge, k_edge, k_edgeBarge, k_who, k_here) := rfl
theorem nb_BargeBasinModel_low (k_status : Int32) (k_thrown : Int32) (k_barges : Int32) (k_kind : Nat → Int32) (k_at : Nat → Int32) (k_size : Nat → Int32) (k_way : Nat → Int32) (k_gate : Nat → Int32) (k_who : Nat → Int32) (k_here : Nat → Int32) (k_counts : Nat → Int32) : f_BargeBasinModel_low k_status k_thrown 0 k_barges k_kind k_at k_size k_way k_gate k_who k_here k_counts = some (-1, 1, (0 : Int32), k_who, k_here, k_counts) := rfl
theorem nb_BargeBasinModel_line (v1 : Int32) (v2 : Int32) (v3 : Int32) (k_status : Int32) (k_thrown : Int32) (k_width : Int32) (k_height : Int32) (k_barges : Int32) (k_undoMany : Int32) (k_redoMany : Int32) (k_lineSort : Nat → Int32) (k_lineMany : Nat → Int32) (k_numbers : Nat → Int32) (k_wall : Nat → Int32) (k_kind : Nat → Int32) (k_at : Nat → Int32) (k_size : Nat → Int32) (k_way : Nat → Int32) (k_who : Nat → Int32) (k_here : Nat → Int32) (k_oldNumbers : Nat → Int32) : f_BargeBasinModel_line v1 v2 v3 k_status k_thrown 0 k_width k_height k_barges k_undoMany k_redoMany k_lineSort k_lineMany k_numbers k_wall k_kind k_at k_size k_way k_who k_here k_oldNumbers = some (0, 1, (0 : Int32), k_undoMany, k_redoMany, k_lineSort, k_lineMany, k_numbers, k_wall, k_who, k_here, k_oldNumbers) := rfl
theorem nb_BargeBasinModel_set (v1 : Int32) (v2 : Int32) (v3 : Int32) (k_status : Int32) (k_thrown : Int32) (k_width : Int32) (k_height : Int32) (k_barges : Int32) (k_undoMany : Int32) (k_redoMany : Int32) (k_lineSort : Nat → Int32) (k_lineMany : Nat → Int32) (k_numbers : Nat → Int32) (k_wall : Nat → Int32) (k_kind : Nat → Int32) (k_at : Nat → Int32) (k_size : Nat → Int32) (k_way : Nat → Int32) (k_who : Nat → Int32) (k_here : Nat → Int32) (k_oldNumbers : Nat → Int32) : f_BargeBasinModel_set v1 v2 v3 k_status k_thrown 0 k_width k_height k_barges k_undoMany k_redoMany k_lineSort k_lineMany k_numbers k_wall k_kind k_at k_size k_way k_who k_here k_oldNumbers = some (0, 1, (0 : Int32), k_undoMany, k_redoMany, k_numbers, k_wall, k_who, k_here, k_oldNumbers) := rfl
theorem nb_BargeBasinModel_get (v1 : Int32) (v2 : Int32) (k_status : Int32) (k_thrown : Int32) (k_height : Int32) (k_lineMany : Nat → Int32) (k_numbers : Nat → Int32) : f_BargeBasinModel_get v1 v2 k_status k_thrown 0 k_height k_lineMany k_numbers = some (-1, 1, (0 : Int32)) := rfl
theorem nb_BargeBasinModel_carry (v1 : Int32) (v2 : Int32) (v3 : Int32) (v4 : Int32) (v5 : Int32) (k_status : Int32) (k_thrown : Int32) (k_width : Int32) (k_height : Int32) (k_barges : Int32) (k_undoMany : Int32) (k_redoMany : Int32) (k_lineSort : Nat → Int32) (k_lineMany : Nat → Int32) (k_numbers : Nat → Int32) (k_wall : Nat → Int32) (k_kind : Nat → Int32) (k_at : Nat → Int32) (k_size : Nat → Int32) (k_way : Nat → Int32) (k_who : Nat → Int32) (k_here : Nat → Int32) (k_oldNumbers : Nat → Int32) : f_BargeBasinModel_carry v1 v2 v3 v4 v5 k_status k_thrown 0 k_width k_height k_barges k_undoMany k_redoMany k_lineSort k_lineMany k_numbers k_wall k_kind k_at k_size k_way k_who k_here k_oldNumbers = some (0, 1, (0 : Int32), k_undoMany, k_redoMany, k_numbers, k_wall, k_who, k_here, k_oldNumbers) := rfl
theorem nb_BargeBasinModel_tear (v1 : Int32) (k_status : Int32) (k_thrown : Int32) (k_width : Int32) (k_height : Int32) (k_undoMany : Int32) (k_redoMany : Int32) (k_lineMany : Nat → Int32) (k_numbers : Nat → Int32) (k_wall : Nat → Int32) : f_BargeBasinModel_tear v1 k_status k_thrown 0 k_width k_height k_undoMany k_redoMany k_lineMany k_numbers k_wall = some (0, 1, (0 : Int32), k_undoMany, k_redoMany, k_lineMany, k_wall) := rfl
theorem nb_BargeBasinModel_barge (v1 : Int32) (v2 : Int32) (v3 : Int32) (v4 : Int32) (v5 : Int32) (k_status : Int32) (k_thrown : Int32) (k_width : Int32) (k_height : Int32) (k_barges : Int32) (k_undoMany : Int32) (k_redoMany : Int32) (k_wall : Nat → Int32) (k_kind : Nat → Int32) (k_at : Nat → Int32) (k_size : Nat → Int32) (k_way : Nat → Int32) (k_gate : Nat → Int32) (k_who : Nat → Int32) (k_here : Nat → Int32) : f_BargeBasinModel_barge v1 v2 v3 v4 v5 k_status k_thrown 0 k_width k_height k_barges k_undoMany k_redoMany k_wall k_kind k_at k_size k_way k_gate k_who k_here = some (-1, 1, (0 : Int32), k_barges, k_undoMany, k_redoMany, k_kind, k_at, k_size, k_way, k_gate, k_who, k_here) := rfl
theorem nb_BargeBasinModel_gate (v1 : Int32) (v2 : Int32) (v3 : Int32) (k_status : Int32) (k_thrown : Int32) (k_width : Int32) (k_height : Int32) (k_barges : Int32) (k_undoMany : Int32) (k_redoMany : Int32) (k_kind : Nat → Int32) (k_at : Nat → Int32) (k_size : Nat → Int32) (k_way : Nat → Int32) (k_gate : Nat → Int32) : f_BargeBasinModel_gate v1 v2 v3 k_status k_thrown 0 k_width k_height k_barges k_undoMany k_redoMany k_kind k_at k_size k_way k_gate = some (0, 1, (0 : Int32), k_undoMany, k_redoMany, k_gate) := rfl
theorem nb_BargeBasinModel_lift (v1 : Int32) (k_status : Int32) (k_thrown : Int32) (k_barges : Int32) (k_undoMany : Int32) (k_redoMany : Int32) (k_kind : Nat → Int32) (k_at : Nat → Int32) (k_size : Nat → Int32) (k_way : Nat → Int32) (k_gate : Nat → Int32) : f_BargeBasinModel_lift v1 k_status k_thrown 0 k_barges k_undoMany k_redoMany k_kind k_at k_size k_way k_gate = some (0, 1, (0 : Int32), k_barges, k_undoMany, k_redoMany, k_kind, k_at, k_size, k_way, k_gate) := rfl
theorem nb_BargeBasinModel_lies (v1 : Int32) (v2 : Int32) (k_status : Int32) (k_thrown : Int32) (k_barges : Int32) (k_kind : Nat → Int32) (k_at : Nat → Int32) (k_size : Nat → Int32) (k_way : Nat → Int32) (k_gate : Nat → Int32) : f_BargeBasinModel_lies v1 v2 k_status k_thrown 0 k_barges k_kind k_at k_size k_way k_gate = some (-1, 1, (0 : Int32)) := rfl
theorem nb_BargeBasinModel_field (v1 : Int32) (v2 : Int32) (k_status : Int32) (k_thrown : Int32) (k_width : Int32) (k_height : Int32) (k_barges : Int32) (k_wall : Nat → Int32) (k_kind : Nat → Int32) (k_at : Nat → Int32) (k_size : Nat → Int32) (k_way : Nat → Int32) (k_who : Nat → Int32) (k_here : Nat → Int32) : f_BargeBasinModel_field v1 v2 k_status k_thrown 0 k_width k_height k_barges k_wall k_kind k_at k_size k_way k_who k_here = some (-1, 1, (0 : Int32), k_who, k_here) := rfl
theorem nb_BargeBasinModel_count (v1 : Int32) (k_status : Int32) (k_thrown : Int32) (k_width : Int32) (k_height : Int32) (k_barges : Int32) (k_undoMany : Int32) (k_redoMany : Int32) (k_wall : Nat → Int32) (k_kind : Nat → Int32) (k_at : Nat → Int32) (k_size : Nat → Int32) (k_way : Nat → Int32) (k_gate : Nat → Int32) (k_who : Nat → Int32) (k_here : Nat → Int32) : f_BargeBasinModel_count v1 k_status k_thrown 0 k_width k_height k_barges k_undoMany k_redoMany k_wall k_kind k_at k_size k_way k_gate k_who k_here = some (-1, 1, (0 : Int32), k_who, k_here) := rfl
theorem nb_BargeBasinModel_room (v1 : Int32) (v2 : Int32) (k_status : Int32) (k_thrown : Int32) (k_width : Int32) (k_height : Int32) (k_barges : Int32) (k_wall : Nat → Int32) (k_kind : Nat → Int32) (k_at : Nat → Int32) (k_size : Nat → Int32) (k_way : Nat → Int32) (k_who : Nat → Int32) (k_here : Nat → Int32) : f_BargeBasinModel_room v1 v2 k_status k_thrown 0 k_width k_height k_barges k_wall k_kind k_at k_size k_way k_who k_here = some (-1, 1, (0 : Int32), k_who, k_here) := rfl
theorem nb_BargeBasinModel_slide (v1 : Int32) (v2 : Int32) (v3 : Int32) (k_status : Int32) (k_thrown : Int32) (k_width : Int32) (k_height : Int32) (k_barges : Int32) (k_undoMany : Int32) (k_redoMany : Int32) (k_whyStep : Int32) (k_whyWhat : Int32) (k_whyWho : Int32) (k_wall : Nat → Int32) (k_kind : Nat → Int32) (k_at : Nat → Int32) (k_size : Nat → Int32) (k_way : Nat → Int32) (k_undoBarge : Nat → Int32) (k_undoFrom : Nat → Int32) (k_undoTo : Nat → Int32) (k_who : Nat → Int32) (k_here : Nat → Int32) : f_BargeBasinModel_slide v1 v2 v3 k_status k_thrown 0 k_width k_height k_barges k_undoMany k_redoMany k_whyStep k_whyWhat k_whyWho k_wall k_kind k_at k_size k_way k_undoBarge k_undoFrom k_undoTo k_who k_here = some (0, 1, (0 : Int32), k_undoMany, k_redoMany, k_whyStep, k_whyWhat, k_whyWho, k_at, k_undoBarge, k_undoFrom, k_undoTo, k_who, k_here) := rfl
theorem nb_BargeBasinModel_undo (k_status : Int32) (k_thrown : Int32) (k_undoMany : Int32) (k_redoMany : Int32) (k_at : Nat → Int32) (k_undoBarge : Nat → Int32) (k_undoFrom : Nat → Int32) (k_undoTo : Nat → Int32) (k_redoBarge : Nat → Int32) (k_redoFrom : Nat → Int32) (k_redoTo : Nat → Int32) : f_BargeBasinModel_undo k_status k_thrown 0 k_undoMany k_redoMany k_at k_undoBarge k_undoFrom k_undoTo k_redoBarge k_redoFrom k_redoTo = some (0, 1, (0 : Int32), k_undoMany, k_redoMany, k_at, k_redoBarge, k_redoFrom, k_redoTo) := rfl
theorem nb_BargeBasinModel_redo (k_status : Int32) (k_thrown : Int32) (k_undoMany : Int32) (k_redoMany : Int32) (k_at : Nat → Int32) (k_undoBarge : Nat → Int32) (k_undoFrom : Nat → Int32) (k_undoTo : Nat → Int32) (k_redoBarge : Nat → Int32) (k_redoFrom : Nat → Int32) (k_redoTo : Nat → Int32) : f_BargeBasinModel_redo k_status k_thrown 0 k_undoMany k_redoMany k_at k_undoBarge k_undoFrom k_undoTo k_redoBarge k_redoFrom k_redoTo = some (0, 1, (0 : Int32), k_undoMany, k_redoMany, k_at, k_undoBarge, k_undoFrom, k_undoTo) := rfl
theorem nb_BargeBasinModel_follow (v1 : Int32) (v2 : Int32) (k_status : Int32) (k_thrown : Int32) (k_width : Int32) (k_height : Int32) (k_barges : Int32) (k_undoMany : Int32) (k_redoMany : Int32) (k_whyStep : Int32) (k_whyWhat : Int32) (k_whyWho : Int32) (k_hasPlan : Int32) (k_planMany : Int32) (k_wall : Nat → Int32) (k_kind : Nat → Int32) (k_at : Nat → Int32) (k_size : Nat → Int32) (k_way : Nat → Int32) (k_undoBarge : Nat → Int32) (k_undoFrom : Nat → Int32) (k_undoTo : Nat → Int32) (k_planBarge : Nat → Int32) (k_planWay : Nat → Int32) (k_planSteps : Nat → Int32) (k_who : Nat → Int32) (k_here : Nat → Int32) : f_BargeBasinModel_follow v1 v2 k_status k_thrown 0 k_width k_height k_barges k_undoMany k_redoMany k_whyStep k_whyWhat k_whyWho k_hasPlan k_planMany k_wall k_kind k_at k_size k_way k_undoBarge k_undoFrom k_undoTo k_planBarge k_planWay k_planSteps k_who k_here = some (-1, 1, (0 : Int32), k_undoMany, k_redoMany, k_whyStep, k_whyWhat, k_whyWho, k_at, k_undoBarge, k_undoFrom, k_undoTo, k_who, k_here) := rfl
theorem nb_BargeBasinModel_trim (k_status : Int32) (k_thrown : Int32) (k_width : Int32) (k_height : Int32) (k_barges : Int32) (k_undoMany : Int32) (k_redoMany : Int32) (k_stands : Int32) (k_edges : Int32) (k_lineSort : Nat → Int32) (k_lineMany : Nat → Int32) (k_numbers : Nat → Int32) (k_wall : Nat → Int32) (k_kind : Nat → Int32) (k_at : Nat → Int32) (k_size : Nat → Int32) (k_way : Nat → Int32) (k_gate : Nat → Int32) (k_places : Nat → Int32) (k_heads : Nat → Int32) (k_chain : Nat → Int32) (k_depth : Nat → Int32) (k_parent : Nat → Int32) (k_byBarge : Nat → Int32) (k_byWay : Nat → Int32) (k_bySteps : Nat → Int32) (k_far : Nat → Int32) (k_firstEdge : Nat → Int32) (k_edge : Nat → Int32) (k_edgeBarge : Nat → Int32) (k_who : Nat → Int32) (k_here : Nat → Int32) : f_BargeBasinModel_trim k_status k_thrown 0 k_width k_height k_barges k_undoMany k_redoMany k_stands k_edges k_lineSort k_lineMany k_numbers k_wall k_kind k_at k_size k_way k_gate k_places k_heads k_chain k_depth k_parent k_byBarge k_byWay k_bySteps k_far k_firstEdge k_edge k_edgeBarge k_who k_here = some (-1, 1, (0 : Int32), k_barges, k_undoMany, k_redoMany, k_stands, k_edges, k_lineSort, k_lineMany, k_numbers, k_wall, k_kind, k_at, k_size, k_way, k_gate, k_places, k_heads, k_chain, k_depth, k_parent, k_byBarge, k_byWay, k_bySteps, k_far, k_firstEdge, k_edge, k_edgeBarge, k_who, k_here) := rfl
theorem nb_BargeBasinModel_turn (v1 : Int32) (k_status : Int32) (k_thrown : Int32) (k_width : Int32) (k_height : Int32) (k_barges : Int32) (k_undoMany : Int32) (k_redoMany : Int32) (k_lineSort : Nat → Int32) (k_lineMany : Nat → Int32) (k_numbers : Nat → Int32) (k_wall : Nat → Int32) (k_kind : Nat → Int32) (k_at : Nat → Int32) (k_size : Nat → Int32) (k_way : Nat → Int32) (k_gate : Nat → Int32) (k_newWall : Nat → Int32) : f_BargeBasinModel_turn v1 k_status k_thrown 0 k_width k_height k_barges k_undoMany k_redoMany k_lineSort k_lineMany k_numbers k_wall k_kind k_at k_size k_way k_gate k_newWall = some (0, 1, (0 : Int32), k_width, k_height, k_undoMany, k_redoMany, k_lineSort, k_lineMany, k_numbers, k_wall, k_at, k_way, k_gate, k_newWall) := rfl
theorem nb_BargeBasinModel_keep (v1 : Int32) (k_status : Int32) (k_thrown : Int32) (k_width : Int32) (k_height : Int32) (k_barges : Int32) (k_wall : Nat → Int32) (k_kind : Nat → Int32) (k_at : Nat → Int32) (k_size : Nat → Int32) (k_way : Nat → Int32) (k_gate : Nat → Int32) (k_isKept : Nat → Int32) (k_keptWidth : Nat → Int32) (k_keptHeight : Nat → Int32) (k_keptBarges : Nat → Int32) (k_keptWall : Nat → Int32) (k_keptKind : Nat → Int32) (k_keptAt : Nat → Int32) (k_keptSize : Nat → Int32) (k_keptWay : Nat → Int32) (k_keptGate : Nat → Int32) : f_BargeBasinModel_keep v1 k_status k_thrown 0 k_width k_height k_barges k_wall k_kind k_at k_size k_way k_gate k_isKept k_keptWidth k_keptHeight k_keptBarges k_keptWall k_keptKind k_keptAt k_keptSize k_keptWay k_keptGate = some (0, 1, (0 : Int32), k_isKept, k_keptWidth, k_keptHeight, k_keptBarges, k_keptWall, k_keptKind, k_keptAt, k_keptSize, k_keptWay, k_keptGate) := rfl
theorem nb_BargeBasinModel_same (v1 : Int32) (k_status : Int32) (k_thrown : Int32) (k_width : Int32) (k_height : Int32) (k_barges : Int32) (k_asWidth : Int32) (k_asHeight : Int32) (k_wall : Nat → Int32) (k_kind : Nat → Int32) (k_at : Nat → Int32) (k_size : Nat → Int32) (k_way : Nat → Int32) (k_gate : Nat → Int32) (k_isKept : Nat → Int32) (k_keptWidth : Nat → Int32) (k_keptHeight : Nat → Int32) (k_keptBarges : Nat → Int32) (k_keptWall : Nat → Int32) (k_keptKind : Nat → Int32) (k_keptAt : Nat → Int32) (k_keptSize : Nat → Int32) (k_keptWay : Nat → Int32) (k_keptGate : Nat → Int32) (k_newWall : Nat → Int32) (k_asAt : Nat → Int32) (k_asGate : Nat → Int32) (k_asWay : Nat → Int32) (k_asWide : Nat → Int32) (k_asTall : Nat → Int32) (k_asWall : Nat → Int32) : f_BargeBasinModel_same v1 k_status k_thrown 0 k_width k_height k_barges k_asWidth k_asHeight k_wall k_kind k_at k_size k_way k_gate k_isKept k_keptWidth k_keptHeight k_keptBarges k_keptWall k_keptKind k_keptAt k_keptSize k_keptWay k_keptGate k_newWall k_asAt k_asGate k_asWay k_asWide k_asTall k_asWall = some (-1, 1, (0 : Int32), k_asWidth, k_asHeight, k_newWall, k_asAt, k_asGate, k_asWay, k_asWide, k_asTall, k_asWall) := rfl
theorem nb_BargeBasinModel_show (v1 : Int32) (k_status : Int32) (k_thrown : Int32) (k_width : Int32) (k_height : Int32) (k_barges : Int32) (k_outs : Int32) (k_wall : Nat → Int32) (k_kind : Nat → Int32) (k_at : Nat → Int32) (k_size : Nat → Int32) (k_way : Nat → Int32) (k_who : Nat → Int32) (k_here : Nat → Int32) (k_out : Nat → Int32) : f_BargeBasinModel_show v1 k_status k_thrown 0 k_width k_height k_barges k_outs k_wall k_kind k_at k_size k_way k_who k_here k_out = some (-1, 1, (0 : Int32), k_outs, k_who, k_here, k_out) := rfl
theorem nb_BargeBasin_show (v1 cnt st hh n : Int32) (wl : Int64) (ck cp : Nat → Int32) (cs : Nat → Int64) (sh : Nat → Int32) : f_BargeBasin_show v1 cnt st 0 hh n wl ck cp cs sh = some (-1, cnt, 1, sh) := rfl
end
section
/-! show of both sides. -/
/-- the sign of field x of row y -/
def letA (B : Bas) (P : Nat → Nat) (f : Nat) : Int32 := if bwl B f = true then 35 else match whoN (fbA B P) (bn B) f with | some b => if bK B b = 5 then 65 + nI b else 97 + nI b | none => 46
theorem s_letterAt {B : Bas} {P : Nat → Nat} {x y : Nat} {kwl : Int64} {kk ka kw kh kp : Nat → Int32} {ks : Nat → Int64} (h : basOk B) (hs : stOk B P) (hc : chB B kk ka kw kh ks) (hp : chP B P kp) (hw : chW B kwl) (hx : x < 8) (hy : y < 8) : f_Chart_letterAt (nI x) (nI y) (nI (bn B)) kwl kk kp ks = some (letA B P (x + 8 * y)) := by
  have n12 := h.2.2.2.2.1
  unfold f_Chart_letterAt letA
  rw [ev_b _ (s_signAt h hs hc hp hw hx hy)]
  cases bwl B (x + 8 * y) with
  | true => rfl
  | false =>
    rw [if_neg (show ¬ false = true by decide), if_neg (show ¬ false = true by decide)]
    cases eo : whoN (fbA B P) (bn B) (x + 8 * y) with
    | none => rfl
    | some b =>
      have hb := (whoN_mem eo).1
      have k6 := (basOk_wh h hb).2
      have e5 : (nI (bK B b) = 5) = (bK B b = 5) := nI_eqL (j := 5) (by have := (bgOk_wh (h.2.2.2.2.2.1 b hb)).1; omega) (by decide)
      show (if 0 ≤ nI b then _ else _) = some (if bK B b = 5 then 65 + nI b else 97 + nI b)
      rw [if_pos (show (0 : Int32) ≤ nI b from Int32.not_lt.mp (nI_nn (by omega)))]
      simp only [ev_grdN _ (show b < 12 by omega) (show 12 < 2 ^ 31 by decide), cl_nI (show b < 12 by omega), (hc b hb).1, e5]
      by_cases c : bK B b = 5
      · rw [if_pos c, if_pos c]
      · rw [if_neg c, if_neg c]
theorem m_showS {B : Bas} {P : Nat → Nat} {x y : Nat} {kwl kk kwho ks ky out : Nat → Int32} {m : Nat} (h : basOk B) (hwl : rfW B kwl) (hk : rfB B kk ks ky) (ho : rfO B P kwho) (hx : x < bw B) (hy : y < 8) : f_BargeBasinModel_show_L51 (nI y) (nI (bw B)) kwl kk kwho (m + 1) (nI x) out = f_BargeBasinModel_show_L51 (nI y) (nI (bw B)) kwl kk kwho m (nI (x + 1)) (upd out x (vp_nar .byte ((letA B P (x + 8 * y)).toInt8.toInt32))) := by
  have n12 := h.2.2.2.2.1
  have w8 := h.2.1
  have e : nI x + (8 : Int32) * nI y = nI (x + 8 * y) := by rw [i8, nI_add]
  rw [f_BargeBasinModel_show_L51, if_neg (nI_ge hx (by omega)), e]
  simp only [ev_grdN _ (show x + 8 * y < 64 by omega) (show 64 < 2 ^ 31 by decide), nI_clamp (show x + 8 * y < 2 ^ 31 by omega), ev_bnd, ev_grdN _ (show x < 8 by omega) (show 8 < 2 ^ 31 by decide), nI_clamp (show x < 2 ^ 31 by omega), nI_1, hwl _ (show x + 8 * y < 64 by omega), ho _ (show x + 8 * y < 64 by omega)]
  unfold letA
  cases bwl B (x + 8 * y) with
  | true => rw [if_neg (show ¬ bI true = 0 by decide), if_pos rfl]
  | false =>
    rw [if_pos (show bI false = 0 by decide), if_neg (show ¬ false = true by decide)]
    cases eo : whoN (fbA B P) (bn B) (x + 8 * y) with
    | none => rw [if_neg (show ¬ 0 ≤ oI none by decide)]
    | some b =>
      have hb := (whoN_mem eo).1
      have e5 : (nI (bK B b) = 5) = (bK B b = 5) := nI_eqL (j := 5) (by have := (bgOk_wh (h.2.2.2.2.2.1 b hb)).1; omega) (by decide)
      have eI : oI (some b) = nI b := rfl
      rw [eI, if_pos (show (0 : Int32) ≤ nI b from Int32.not_lt.mp (nI_nn (by omega)))]
      simp only [ev_grdN _ (show b < 12 by omega) (show 12 < 2 ^ 31 by decide), cl_nI (show b < 12 by omega), (hk b hb).1, e5]
      by_cases c : bK B b = 5
      · rw [if_pos c, if_pos c]
      · rw [if_neg c, if_neg c]
theorem showL {B : Bas} {P : Nat → Nat} {y : Nat} {cwl : Int64} {ck ca cwd chg cp : Nat → Int32} {cs : Nat → Int64} {kwl kk ks ky kwho : Nat → Int32} (h : basOk B) (hP : stC B P) (hc : chB B ck ca cwd chg cs) (hp : chP B P cp) (hw : chW B cwl) (hwl : rfW B kwl) (hk : rfB B kk ks ky) (ho : rfO B P kwho) (hy : y < 8) :
    ∀ (d x n : Nat) (sh out : Nat → Int32), x + d = bw B → d < n → (∀ i, i < x → sh i = out i) → ∃ S T, f_BargeBasin_show_L29 (nI y) (nI (bw B)) (nI (bn B)) cwl ck cp cs n (nI x) sh = some S ∧ f_BargeBasinModel_show_L51 (nI y) (nI (bw B)) kwl kk kwho n (nI x) out = some T ∧ ∀ i, i < bw B → S i = T i := by
  have w8 := h.2.1
  intro d
  induction d with
  | zero =>
    intro x n sh out q hn hi
    obtain ⟨m, rfl⟩ : ∃ m, n = m + 1 := ⟨n - 1, by omega⟩
    have e : x = bw B := by omega
    subst e
    refine ⟨sh, out, ?_, ?_, hi⟩
    · rw [f_BargeBasin_show_L29, if_pos (nI_le (Nat.le_refl _) (by omega))]
    · rw [f_BargeBasinModel_show_L51, if_pos (nI_le (Nat.le_refl _) (by omega))]
  | succ d ih =>
    intro x n sh out q hn hi
    obtain ⟨m, rfl⟩ : ∃ m, n = m + 1 := ⟨n - 1, by omega⟩
    rw [m_showS h hwl hk ho (show x < bw B by omega) hy, f_BargeBasin_show_L29, if_neg (nI_ge (show x < bw B by omega) (by omega)), ev_b _ (s_letterAt h hP.1 hc hp hw (show x < 8 by omega) hy)]
    simp only [ev_bnd, ev_grdN _ (show x < 8 by omega) (show 8 < 2 ^ 31 by decide), nI_clamp (show x < 2 ^ 31 by omega), nI_1]
    refine ih (x + 1) m _ _ (by omega) (by omega) (fun i hi₉ => ?_)
    by_cases z : i = x
    · rw [z, pk_us, pk_us]
    · rw [pk_un z, pk_un z]; exact hi i (by omega)
/-- what show() left behind: as many signs on both sides, and the same -/
def shR (cnt : Int32) (sh : Nat → Int32) (outs : Int32) (out : Nat → Int32) : Prop := ∃ w, w ≤ 8 ∧ cnt = nI w ∧ outs = nI w ∧ ∀ i, i < w → sh i = out i
theorem eq_show {B : Bas} {P : Nat → Nat} {cw chh cn : Int32} {cwl ct : Int64} {ck cp cl cg ca cwd chg : Nat → Int32} {cs : Nat → Int64} {khas kw kh kn : Int32} {kwl kk kat ks ky kg : Nat → Int32} {cnt outs : Int32} {sh out : Nat → Int32} (h : basOk B) (hP : stC B P) (hc : chX B P cw chh cn cwl ct ck cp cl cg ca cwd chg cs) (hr : rfX B P khas kw kh kn kwl kk kat ks ky kg) (hs : shR cnt sh outs out) (v1 st st2 th : Int32) (kwho khe : Nat → Int32) :
    ∃ (ans st₉ cnt₉ outs₉ : Int32) (sh₉ out₉ kwho₉ khe₉ : Nat → Int32), f_BargeBasin_show v1 cnt st cw chh cn cwl ck cp cs sh = some (ans, cnt₉, st₉, sh₉) ∧ f_BargeBasinModel_show v1 st2 th khas kw kh kn outs kwl kk kat ks ky kwho khe out = some (ans, st₉, 0, outs₉, kwho₉, khe₉, out₉) ∧ shR cnt₉ sh₉ outs₉ out₉ := by
  obtain ⟨c1, c2, c3, c4, c5, c6, c7, c8, c9⟩ := hc
  obtain ⟨r1, r2, r3, r4, r5, r6, r7, r8⟩ := hr
  subst c1; subst c2; subst c3; subst r1; subst r2; subst r3; subst r4
  have w8 := h.2.1
  have h8 := h.2.2.2.1
  unfold f_BargeBasin_show f_BargeBasinModel_show
  rw [ev_b _ (noBas h), if_pos rfl, if_neg (show ¬ (1 : Int32) = 0 by decide)]
  rcases lin (v1 := v1) h with ⟨y, hy, e, l1, l2⟩ | ⟨l1, l2⟩
  · subst e
    obtain ⟨kw1, kh1, e1, o1, p1⟩ := m_layAllB h hP.1.1 r6 r7 kwho khe
    obtain ⟨S, T, s1, s2, s3⟩ := showL h hP c6 c7 c4 r5 r6 o1 (show y < 8 by omega) (bw B) 0 jN sh out (by omega) (by show bw B < 2000000; omega) (fun i hi => by omega)
    rw [ev_b _ l1, ev_b _ l2, if_pos rfl, if_neg (show ¬ (1 : Int32) = 0 by decide), ev_b _ e1, un2_ap, ev_b _ (show f_BargeBasin_show_L29 (nI y) (nI (bw B)) (nI (bn B)) cwl ck cp cs jN 0 sh = _ from s1), ev_b _ (show f_BargeBasinModel_show_L51 (nI y) (nI (bw B)) kwl kk kw1 jN 0 out = _ from s2)]
    exact ⟨nI (bw B), 0, nI (bw B), nI (bw B), S, T, kw1, kh1, rfl, rfl, bw B, w8, rfl, rfl, s3⟩
  · rw [ev_b _ l1, ev_b _ l2, if_neg (show ¬ (1 : Int32) = 0 by decide), if_pos rfl]
    exact ⟨-1, 2, cnt, outs, sh, out, kwho, khe, rfl, rfl, hs⟩
end
section
/-! reach of the class, where no search was made yet. -/
theorem s_reach_01 {B : Bas} {P : Nat → Nat} {cw chh cn : Int32} {cwl ct : Int64} {ck cp cl cg ca cwd chg : Nat → Int32} {cs : Nat → Int64} (h : basOk B) (hP : stC B P) (hc : chX B P cw chh cn cwl ct ck cp cl cg ca cwd chg cs) (status : Int32) :
    ∃ (ans st : Int32) (f₉ sp₉ w₉ h₉ n₉ : Int32) (wl₉ t₉ : Int64) (k₉ p₉ l₉ g₉ a₉ wd₉ hg₉ : Nat → Int32) (s₉ lo₉ hi₉ : Nat → Int64) (sl₉ fo₉ mv₉ : Nat → Int32), f_BargeBasin_reach_search01 status cw chh cn cwl ct ck cp cl cg ca cwd chg cs = some (ans, st, f₉, sp₉, w₉, h₉, n₉, wl₉, t₉, k₉, p₉, l₉, g₉, a₉, wd₉, hg₉, s₉, lo₉, hi₉, sl₉, fo₉, mv₉) ∧ schI f₉ sl₉ fo₉ ∧ reachX B P ans st := by
  obtain ⟨f1, sp1, t1, k1, p1, l1, g1, a1, wd1, hg1, s1, lo1, hi1, sl1, fo1, mv1, e1, cb, cg1, x1⟩ := s_explore h hP hc schI_0 0 0 0 0 0 0 (fun _ => 0) (fun _ => 0) (fun _ => 0) (fun _ => 0) (fun _ => 0) (fun _ => 0) (fun _ => 0) (fun _ => 0) (fun _ => 0) (fun _ => 0) (fun _ => 0)
  have sc := exS_sch x1
  unfold f_BargeBasin_reach_search01
  rw [show f_BargeBasin_hasNoBasin cw = some 0 by rw [hc.1]; exact noBas h, ev_b _ rfl, if_pos rfl, ev_b _ (show f_BargeBasin_searcher_search01 = some () from rfl), un0_ap, ev_b _ e1, un21_ap]
  by_cases c : (FL B 7 P).length ≤ 6000
  · rw [decide_eq_true c, if_neg (show ¬ bI true = 0 by decide)]
    refine ⟨_, _, _, _, _, _, _, _, _, _, _, _, _, _, _, _, _, _, _, _, _, _,  rfl, sc, Or.inl ⟨c, ?_, rfl⟩⟩
    rcases x1 with ⟨-, y2, -⟩ | ⟨-, y2, -⟩
    · exact y2
    · omega
  · rw [decide_eq_false c, if_pos (show bI false = 0 by decide)]
    exact ⟨_, _, _, _, _, _, _, _, _, _, _, _, _, _, _, _, _, _, _, _, _, _,  rfl, sc, Or.inr ⟨by omega, rfl, rfl⟩⟩
end
section
/-! keep of the reference: its loops. -/
/-- g's first l values at s and behind it, those below k left out -/
def ovk (a g : Nat → Int32) (s k l : Nat) : Nat → Int32 := fun f => if s + k ≤ f ∧ f < s + l then g (f - s) else a f
theorem ovk_end {a g : Nat → Int32} {s l : Nat} : ovk a g s l l = a := by
  funext f; unfold ovk; rw [if_neg (by omega)]
theorem ovk_step {a g : Nat → Int32} {s k l : Nat} (hk : k < l) : ovk (upd a (s + k) (g k)) g s (k + 1) l = ovk a g s k l := by
  funext f
  unfold ovk
  by_cases z : f = s + k
  · rw [if_neg (by omega), if_pos (by omega), z, pk_us, show s + k - s = k by omega]
  · rw [pk_un z]
    by_cases c : s + (k + 1) ≤ f ∧ f < s + l
    · rw [if_pos c, if_pos (by omega)]
    · rw [if_neg c, if_neg (by omega)]
theorem ovk_in {a g : Nat → Int32} {s l i : Nat} (hi : i < l) : ovk a g s 0 l (s + i) = g i := by
  unfold ovk; rw [if_pos (by omega), show s + i - s = i by omega]
theorem ovk_out {a g : Nat → Int32} {s l f : Nat} (h : f < s ∨ s + l ≤ f) : ovk a g s 0 l f = a f := by
  unfold ovk; rw [if_neg (by omega)]
theorem m_keepL77 {k : Nat} {kwl : Nat → Int32} (hk : k < 4) (hw : ∀ f, f < 64 → vp_nar .boolean (kwl f) = kwl f) : ∀ (d i n : Nat) (a : Nat → Int32), i + d = 64 → d < n → f_BargeBasinModel_keep_L77 (nI k) kwl n (nI i) a = some (ovk a kwl (64 * k) i 64) := by
  intro d
  induction d with
  | zero =>
    intro i n a h hn
    obtain ⟨m, rfl⟩ : ∃ m, n = m + 1 := ⟨n - 1, by omega⟩
    have e : i = 64 := by omega
    subst e
    rw [f_BargeBasinModel_keep_L77, if_pos (show (64 : Int32) ≤ nI 64 by decide), ovk_end]
  | succ d ih =>
    intro i n a h hn
    obtain ⟨m, rfl⟩ : ∃ m, n = m + 1 := ⟨n - 1, by omega⟩
    have e : (64 : Int32) * nI k + nI i = nI (64 * k + i) := by rw [show (64 : Int32) * nI k = nI (64 * k) from pk_mul 64 k, nI_add]
    rw [f_BargeBasinModel_keep_L77, if_neg (show ¬ (64 : Int32) ≤ nI i from nI_ge (b := 64) (show i < 64 by omega) (by decide)), e, ev_grdN _ (show i < 64 by omega) (by decide), ev_bnd, ev_grdN _ (show 64 * k + i < 256 by omega) (by decide), ev_bnd, nI_1, nI_clamp (show i < 2 ^ 31 by omega), nI_clamp (show 64 * k + i < 2 ^ 31 by omega), hw i (by omega), ih (i + 1) m _ (by omega) (by omega), ovk_step (by omega)]
theorem m_keepL108 {k N : Nat} {kk kat ks ky kg : Nat → Int32} (hk : k < 4) (hN : N ≤ 12) : ∀ (d i n : Nat) (a b c e f : Nat → Int32), i + d = N → d < n → f_BargeBasinModel_keep_L108 (nI k) (nI N) kk kat ks ky kg n (nI i) a b c e f = some (ovk a kk (12 * k) i N, ovk b kat (12 * k) i N, ovk c ks (12 * k) i N, ovk e ky (12 * k) i N, ovk f kg (12 * k) i N) := by
  intro d
  induction d with
  | zero =>
    intro i n a b c e f h hn
    obtain ⟨m, rfl⟩ : ∃ m, n = m + 1 := ⟨n - 1, by omega⟩
    have e : i = N := by omega
    subst e
    rw [f_BargeBasinModel_keep_L108, if_pos (nI_le (Nat.le_refl _) (by omega)), ovk_end, ovk_end, ovk_end, ovk_end, ovk_end]
  | succ d ih =>
    intro i n a b c e f h hn
    obtain ⟨m, rfl⟩ : ∃ m, n = m + 1 := ⟨n - 1, by omega⟩
    have e12 : (12 : Int32) * nI k + nI i = nI (12 * k + i) := by rw [show (12 : Int32) * nI k = nI (12 * k) from pk_mul 12 k, nI_add]
    rw [f_BargeBasinModel_keep_L108, if_neg (nI_ge (show i < N by omega) (by omega)), e12]
    simp only [ev_bnd, ev_grdN _ (show i < 12 by omega) (show 12 < 2 ^ 31 by decide), ev_grdN _ (show 12 * k + i < 48 by omega) (show 48 < 2 ^ 31 by decide), nI_clamp (show i < 2 ^ 31 by omega), nI_clamp (show 12 * k + i < 2 ^ 31 by omega), nI_1]
    rw [ih (i + 1) m _ _ _ _ _ (by omega) (by omega), ovk_step (by omega), ovk_step (by omega), ovk_step (by omega), ovk_step (by omega), ovk_step (by omega)]
end
section
/-- the reference's shelf k holds basin B with the barges at P -/
def kpR (B : Bas) (P : Nat → Nat) (k : Nat) (iK kW kH kN kWl kK kA kS kY kG : Nat → Int32) : Prop := iK k = 1 ∧ kW k = nI (bw B) ∧ kH k = nI (bh B) ∧ kN k = nI (bn B) ∧ (∀ f, f < 64 → kWl (64 * k + f) = bI (bwl B f)) ∧ (∀ b, b < bn B → kK (12 * k + b) = nI (bK B b) ∧ kS (12 * k + b) = nI (bS B b) ∧ kY (12 * k + b) = nI (bY B b)) ∧ (∀ b, b < bn B → kA (12 * k + b) = nI (P b)) ∧ (∀ b, b < bn B → bK B b = 5 → kG (12 * k + b) = nI (bG B b))
theorem m_keep {B : Bas} {P : Nat → Nat} {k : Nat} {khas kw kh kn : Int32} {kwl kk kat ks ky kg : Nat → Int32} (h : basOk B) (hr : rfX B P khas kw kh kn kwl kk kat ks ky kg) (hk : k < 4) (st2 th : Int32) (iK kW kH kN kWl kK kA kS kY kG : Nat → Int32) :
    ∃ (iK₉ kW₉ kH₉ kN₉ kWl₉ kK₉ kA₉ kS₉ kY₉ kG₉ : Nat → Int32), f_BargeBasinModel_keep (nI k) st2 th khas kw kh kn kwl kk kat ks ky kg iK kW kH kN kWl kK kA kS kY kG = some (1, 0, 0, iK₉, kW₉, kH₉, kN₉, kWl₉, kK₉, kA₉, kS₉, kY₉, kG₉) ∧ kpR B P k iK₉ kW₉ kH₉ kN₉ kWl₉ kK₉ kA₉ kS₉ kY₉ kG₉ ∧
      (∀ j, j ≠ k → iK₉ j = iK j) ∧ (∀ (C : Bas) (Q : Nat → Nat) (j : Nat), bn C ≤ 12 → j ≠ k → kpR C Q j iK kW kH kN kWl kK kA kS kY kG → kpR C Q j iK₉ kW₉ kH₉ kN₉ kWl₉ kK₉ kA₉ kS₉ kY₉ kG₉) := by
  have n12 := h.2.2.2.2.1
  obtain ⟨r1, r2, r3, r4, r5, r6, r7, r8⟩ := hr
  subst r1; subst r2; subst r3; subst r4
  have e1 := m_keepL77 (kwl := kwl) hk (fun f hf => by rw [r5 f hf, nar_bI]) 64 0 jN kWl (by omega) (by show 64 < 2000000; omega)
  have e2 := m_keepL108 (kk := kk) (kat := kat) (ks := ks) (ky := ky) (kg := kg) hk n12 (bn B) 0 jN kK kA kS kY kG (by omega) (by show bn B < 2000000; omega)
  refine ⟨upd iK k 1, upd kW k (nI (bw B)), upd kH k (nI (bh B)), upd kN k (nI (bn B)), ovk kWl kwl (64 * k) 0 64, ovk kK kk (12 * k) 0 (bn B), ovk kA kat (12 * k) 0 (bn B), ovk kS ks (12 * k) 0 (bn B), ovk kY ky (12 * k) 0 (bn B), ovk kG kg (12 * k) 0 (bn B), ?_, ?_, ?_, ?_⟩
  · unfold f_BargeBasinModel_keep
    have e3 : (nI k ≤ 3) = (k ≤ 3) := nI_leE (b := 3) (by omega) (by decide)
    rw [if_neg (show ¬ (1 : Int32) = 0 by decide), if_neg (nI_nn (by omega)), if_pos (show nI k ≤ 3 by rw [e3]; omega)]
    simp only [ev_grdN _ hk (show 4 < 2 ^ 31 by decide), nI_clamp (show k < 2 ^ 31 by omega)]
    rw [ev_b _ (show f_BargeBasinModel_keep_L77 (nI k) kwl jN 0 kWl = _ from e1), ev_b _ (show f_BargeBasinModel_keep_L108 (nI k) (nI (bn B)) kk kat ks ky kg jN 0 kK kA kS kY kG = _ from e2), un5_ap, show vp_nar .boolean (1 : Int32) = 1 from nar_bI true]
  · refine ⟨pk_us, pk_us, pk_us, pk_us, fun f hf => ?_, fun b hb => ?_, fun b hb => ?_, fun b hb e => ?_⟩
    · rw [ovk_in hf]; exact r5 f hf
    · rw [ovk_in hb, ovk_in hb, ovk_in hb]; exact r6 b hb
    · rw [ovk_in hb]; exact r7 b hb
    · rw [ovk_in hb]; exact r8 b hb e
  · intro j hj; exact pk_un hj
  · rintro C Q j c12 hj ⟨q1, q2, q3, q4, q5, q6, q7, q8⟩
    refine ⟨by rw [pk_un hj]; exact q1, by rw [pk_un hj]; exact q2, by rw [pk_un hj]; exact q3, by rw [pk_un hj]; exact q4, fun f hf => ?_, fun b hb => ?_, fun b hb => ?_, fun b hb e => ?_⟩
    · rw [ovk_out (by omega)]; exact q5 f hf
    · rw [ovk_out (by omega), ovk_out (by omega), ovk_out (by omega)]; exact q6 b hb
    · rw [ovk_out (by omega)]; exact q7 b hb
    · rw [ovk_out (by omega)]; exact q8 b hb e
theorem m_keepN {v1 : Int32} (hv : ¬ (0 ≤ v1.toInt ∧ v1.toInt < 4)) (st2 th kw kh kn : Int32) (kwl kk kat ks ky kg iK kW kH kN kWl kK kA kS kY kG : Nat → Int32) : f_BargeBasinModel_keep v1 st2 th 1 kw kh kn kwl kk kat ks ky kg iK kW kH kN kWl kK kA kS kY kG = some (0, 2, 0, iK, kW, kH, kN, kWl, kK, kA, kS, kY, kG) := by
  have t0 : (0 : Int32).toInt = 0 := rfl
  have t3 : (3 : Int32).toInt = 3 := by decide
  unfold f_BargeBasinModel_keep
  rw [if_neg (show ¬ (1 : Int32) = 0 by decide)]
  by_cases a : v1 < 0
  · rw [if_pos a]; rfl
  · rw [if_neg a, if_neg (show ¬ v1 ≤ 3 from fun z => by
      rw [Int32.lt_iff_toInt_lt, t0] at a
      rw [Int32.le_iff_toInt_le, t3] at z
      omega)]; rfl
end
section
/-! keep of the class. -/
theorem cp_chX {B : Bas} {P : Nat → Nat} {cw chh cn : Int32} {cwl ct : Int64} {ck cp cl cg ca cwd chg : Nat → Int32} {cs : Nat → Int64} (h : basOk B) (hc : chX B P cw chh cn cwl ct ck cp cl cg ca cwd chg cs) (b1 d1 c1 : Int32) (w1 t1 : Int64) (k1 p1 l1 g1 a1 wd1 hg1 : Nat → Int32) (s1 : Nat → Int64) :
    ∃ k p l g a wd hg s, f_Chart_copyFrom b1 d1 c1 w1 t1 k1 p1 l1 g1 a1 wd1 hg1 s1 cw chh cn cwl ct ck cp cl cg ca cwd chg cs = some (cw, chh, cn, cwl, ct, k, p, l, g, a, wd, hg, s) ∧ chX B P cw chh cn cwl ct k p l g a wd hg s := by
  obtain ⟨x1, x2, x3, x4, x5, x6, x7, x8, x9⟩ := hc
  obtain ⟨k, p, l, g, a, wd, hg, s, e, q⟩ := s_copyFrom (n := bn B) (b2 := cw) (d2 := chh) (c2 := cn) (w2 := cwl) (t2 := ct) (k2 := ck) (p2 := cp) (l2 := cl) (g2 := cg) (a2 := ca) (wd2 := cwd) (hg2 := chg) (s2 := cs) h.2.2.2.2.1 (fun b hb => by rw [(x6 b hb).2.1, nar_bI]) b1 d1 c1 w1 t1 k1 p1 l1 g1 a1 wd1 hg1 s1 x3
  refine ⟨k, p, l, g, a, wd, hg, s, e, x1, x2, x3, x4, x5, ?_, fun b hb => ?_, fun b hb => ?_, fun b hb e5 => ?_⟩
  · exact chB_cg x6 (fun b hb => ⟨(q b hb).1, (q b hb).2.2.2.2.1, (q b hb).2.2.2.2.2.1, (q b hb).2.2.2.2.2.2.1, (q b hb).2.2.2.2.2.2.2⟩)
  · rw [(q b hb).2.1]; exact x7 b hb
  · rw [(q b hb).2.2.1]; exact x8 b hb
  · rw [(q b hb).2.2.2.1]; exact x9 b hb e5
theorem s_keep0 {B : Bas} {P : Nat → Nat} {cw chh cn : Int32} {cwl ct : Int64} {ck cp cl cg ca cwd chg : Nat → Int32} {cs : Nat → Int64} {k0 : Nat} {shelves : Nat → Option Nat} (h : basOk B) (hc : chX B P cw chh cn cwl ct ck cp cl cg ca cwd chg cs) (hk : k0 < 4) (hs : shelves k0 = none) (st : Int32) :
    ∃ k p l g a wd hg s, f_BargeBasin_keep_sh0 (nI k0) st cw chh cn cwl ct ck cp cl cg ca cwd chg cs shelves = some (1, 0, cw, chh, cn, cwl, ct, k, p, l, g, a, wd, hg, s) ∧ chX B P cw chh cn cwl ct k p l g a wd hg s := by
  obtain ⟨k, p, l, g, a, wd, hg, s, e, q⟩ := cp_chX h hc 0 0 0 0 0 (fun _ => 0) (fun _ => 0) (fun _ => 0) (fun _ => 0) (fun _ => 0) (fun _ => 0) (fun _ => 0) (fun _ => 0)
  refine ⟨k, p, l, g, a, wd, hg, s, ?_, q⟩
  unfold f_BargeBasin_keep_sh0 jshN
  have e3 : (nI k0 < 4) = (k0 < 4) := nI_ltE (b := 4) (by omega) (by decide)
  rw [show f_BargeBasin_hasNoBasin cw = some 0 by rw [hc.1]; exact noBas h, ev_b _ rfl, if_pos rfl, if_neg (nI_nn (by omega)), if_pos (show nI k0 < 4 by rw [e3]; exact hk)]
  simp only [ev_grdN _ hk (show 4 < 2 ^ 31 by decide), nI_clamp (show k0 < 2 ^ 31 by omega)]
  rw [if_pos hs, ev_b _ (show f_Chart_init = some () from rfl), un0_ap, ev_b _ e]; rfl
theorem s_keep1 {B : Bas} {P : Nat → Nat} {cw chh cn : Int32} {cwl ct : Int64} {ck cp cl cg ca cwd chg : Nat → Int32} {cs : Nat → Int64} {k0 a0 : Nat} {shelves : Nat → Option Nat} (h : basOk B) (hc : chX B P cw chh cn cwl ct ck cp cl cg ca cwd chg cs) (hk : k0 < 4) (hs : shelves k0 = some a0) (st : Int32) (b1 d1 c1 : Int32) (w1 t1 : Int64) (k1 p1 l1 g1 a1 wd1 hg1 : Nat → Int32) (s1 : Nat → Int64) :
    ∃ k p l g a wd hg s, f_BargeBasin_keep_sh1 a0 (nI k0) st cw chh cn cwl ct ck cp cl cg ca cwd chg cs shelves b1 d1 c1 w1 t1 k1 p1 l1 g1 a1 wd1 hg1 s1 = some (1, 0, cw, chh, cn, cwl, ct, k, p, l, g, a, wd, hg, s) ∧ chX B P cw chh cn cwl ct k p l g a wd hg s := by
  obtain ⟨k, p, l, g, a, wd, hg, s, e, q⟩ := cp_chX h hc b1 d1 c1 w1 t1 k1 p1 l1 g1 a1 wd1 hg1 s1
  refine ⟨k, p, l, g, a, wd, hg, s, ?_, q⟩
  unfold f_BargeBasin_keep_sh1 jshS
  have e3 : (nI k0 < 4) = (k0 < 4) := nI_ltE (b := 4) (by omega) (by decide)
  rw [show f_BargeBasin_hasNoBasin cw = some 0 by rw [hc.1]; exact noBas h, ev_b _ rfl, if_pos rfl, if_neg (nI_nn (by omega)), if_pos (show nI k0 < 4 by rw [e3]; exact hk)]
  simp only [ev_grdN _ hk (show 4 < 2 ^ 31 by decide), nI_clamp (show k0 < 2 ^ 31 by omega)]
  rw [if_pos hs, ev_b _ e]; rfl
theorem s_keepN {B : Bas} {v1 : Int32} {shelves : Nat → Option Nat} (h : basOk B) (hv : ¬ (0 ≤ v1.toInt ∧ v1.toInt < 4)) (st : Int32) : f_BargeBasin_keep_shx v1 st (nI (bw B)) shelves = some (0, 2) := by
  have t0 : (0 : Int32).toInt = 0 := rfl
  have t4 : (4 : Int32).toInt = 4 := by decide
  unfold f_BargeBasin_keep_shx
  rw [ev_b _ (noBas h), if_pos rfl]
  by_cases a : v1 < 0
  · rw [if_pos a]; rfl
  · rw [if_neg a, if_neg (show ¬ v1 < 4 from fun z => by
      rw [Int32.lt_iff_toInt_lt, t0] at a
      rw [Int32.lt_iff_toInt_lt, t4] at z
      omega)]; rfl
end
section
/-! Towards Long.bitCount: numbers cut into fields of w bits. -/
theorem land_cat {w Y r M m : Nat} (hr : r < 2 ^ w) (hm : m < 2 ^ w) : (2 ^ w * Y + r) &&& (2 ^ w * M + m) = 2 ^ w * (Y &&& M) + (r &&& m) := by
  have hrm : r &&& m < 2 ^ w := Nat.lt_of_le_of_lt Nat.and_le_left hr
  apply Nat.eq_of_testBit_eq
  intro i
  rw [Nat.testBit_and, Nat.testBit_two_pow_mul_add _ hr, Nat.testBit_two_pow_mul_add _ hm, Nat.testBit_two_pow_mul_add _ hrm]
  by_cases c : i < w
  · rw [if_pos c, if_pos c, if_pos c, Nat.testBit_and]
  · rw [if_neg c, if_neg c, if_neg c, Nat.testBit_and]
/-- the number of set bits among the lowest n -/
def pcN : Nat → Nat → Nat
  | 0, _ => 0
  | n + 1, x => x % 2 + pcN n (x / 2)
/-- n fields of 8 bits, each the number of set bits of x's field -/
def pcB : Nat → Nat → Nat
  | 0, _ => 0
  | n + 1, x => pcN 8 (x % 256) + 256 * pcB n (x / 256)
theorem pcN_8 : ∀ x, x < 256 → pcN 8 x = (let a := (x &&& 85) + (x / 2 &&& 85); let b := (a &&& 51) + (a / 4 &&& 51); (b + b / 16) &&& 15) := by decide +kernel
theorem pcN_le : ∀ n x, pcN n x ≤ n := by
  intro n
  induction n with
  | zero => intro x; exact Nat.le_refl _
  | succ n ih => intro x; have := ih (x / 2); unfold pcN; omega
theorem pcN_add : ∀ (m n x : Nat), pcN (m + n) x = pcN m x + pcN n (x / 2 ^ m) := by
  intro m
  induction m with
  | zero => intro n x; rw [Nat.zero_add, Nat.pow_zero, Nat.div_one]; unfold pcN; omega
  | succ m ih =>
    intro n x
    rw [show m + 1 + n = (m + n) + 1 by omega]
    show x % 2 + pcN (m + n) (x / 2) = (x % 2 + pcN m (x / 2)) + _
    rw [ih n (x / 2), Nat.div_div_eq_div_mul, show 2 * 2 ^ m = 2 ^ (m + 1) by rw [Nat.pow_succ, Nat.mul_comm]]
    omega
end
section
/-! Long.bitCount, byte by byte. -/
def mkB (c : Nat) : Nat → Nat
  | 0 => 0
  | n + 1 => 256 * mkB c n + c
def bmap (g : Nat → Nat) : Nat → Nat → Nat
  | 0, _ => 0
  | n + 1, x => g (x % 256) + 256 * bmap g n (x / 256)
def bc1 (r : Nat) : Nat := r - (r / 2 &&& 85)
def bc2 (r : Nat) : Nat := (r &&& 51) + (r / 4 &&& 51)
def bc3 (r : Nat) : Nat := (r + r / 16) &&& 15
theorem bc_a : ∀ r, r < 256 → ∀ t, t < 2 → ((128 * t + r / 2) &&& 85) = (r / 2 &&& 85) := by decide +kernel
theorem bc_b : ∀ r, r < 256 → ∀ t, t < 4 → ((64 * t + r / 4) &&& 51) = (r / 4 &&& 51) := by decide +kernel
theorem bc_c : ∀ r, r < 69 → ∀ t, t < 5 → ((r + r / 16 + 16 * t) &&& 15) = bc3 r := by decide +kernel
theorem bc_r : ∀ r, r < 256 → bc1 r < 256 ∧ bc2 (bc1 r) < 69 ∧ bc2 (bc1 r) % 16 < 5 ∧ bc3 (bc2 (bc1 r)) = pcN 8 r := by decide +kernel
theorem land256 {Y r M m : Nat} (hr : r < 256) (hm : m < 256) : (256 * Y + r) &&& (256 * M + m) = 256 * (Y &&& M) + (r &&& m) := land_cat (w := 8) hr hm
theorem pow256 (n : Nat) : 256 ^ (n + 1) = 256 * 256 ^ n := by rw [Nat.pow_succ, Nat.mul_comm]
theorem bc_1 : ∀ (n x : Nat), x < 256 ^ n → x - (x / 2 &&& mkB 85 n) = bmap bc1 n x := by
  intro n
  induction n with
  | zero => intro x hx; have : x = 0 := by simpa using hx
            subst this; rfl
  | succ n ih =>
    intro x hx
    rw [pow256] at hx
    have hY : x / 256 < 256 ^ n := by omega
    have e := ih (x / 256) hY
    have q : x / 2 = 256 * (x / 256 / 2) + (128 * (x / 256 % 2) + x % 256 / 2) := by omega
    have l1 : (x / 256 / 2 &&& mkB 85 n) ≤ x / 256 / 2 := Nat.and_le_left
    have l2 : (x % 256 / 2 &&& 85) ≤ x % 256 / 2 := Nat.and_le_left
    show x - (x / 2 &&& (256 * mkB 85 n + 85)) = bc1 (x % 256) + 256 * bmap bc1 n (x / 256)
    rw [← e, q, land256 (by omega) (by decide), bc_a _ (by omega) _ (by omega)]
    unfold bc1
    omega
theorem bc_2 : ∀ (n x : Nat), x < 256 ^ n → (x &&& mkB 51 n) + (x / 4 &&& mkB 51 n) = bmap bc2 n x := by
  intro n
  induction n with
  | zero => intro x hx; have : x = 0 := by simpa using hx
            subst this; rfl
  | succ n ih =>
    intro x hx
    rw [pow256] at hx
    have hY : x / 256 < 256 ^ n := by omega
    have e := ih (x / 256) hY
    have q0 : x = 256 * (x / 256) + x % 256 := by omega
    have q : x / 4 = 256 * (x / 256 / 4) + (64 * (x / 256 % 4) + x % 256 / 4) := by omega
    have a1 : (x &&& (256 * mkB 51 n + 51)) = 256 * (x / 256 &&& mkB 51 n) + (x % 256 &&& 51) := by
      rw [← land256 (Y := x / 256) (r := x % 256) (by omega) (by decide), ← q0]
    show (x &&& (256 * mkB 51 n + 51)) + (x / 4 &&& (256 * mkB 51 n + 51)) = bc2 (x % 256) + 256 * bmap bc2 n (x / 256)
    rw [a1, ← e, q, land256 (by omega) (by decide), bc_b _ (by omega) _ (by omega)]
    unfold bc2
    omega
/-- every byte's halves are below 5 -/
def nib : Nat → Nat → Prop
  | 0, _ => True
  | n + 1, x => x % 256 < 69 ∧ x % 256 % 16 < 5 ∧ nib n (x / 256)
theorem nib_16 : ∀ (n x : Nat), x < 256 ^ n → nib n x → x % 16 < 5 := by
  intro n x hx h
  cases n with
  | zero => have : x = 0 := by simpa using hx
            subst this; decide
  | succ n => have := h.2.1; omega
theorem bc_3 : ∀ (n x : Nat), x < 256 ^ n → nib n x → (x + x / 16) &&& mkB 15 n = bmap bc3 n x := by
  intro n
  induction n with
  | zero => intro x hx _; have : x = 0 := by simpa using hx
            subst this; rfl
  | succ n ih =>
    intro x hx hn
    rw [pow256] at hx
    have hY : x / 256 < 256 ^ n := by omega
    have e := ih (x / 256) hY hn.2.2
    have n5 := nib_16 n (x / 256) hY hn.2.2
    have n1 := hn.1
    have q : x + x / 16 = 256 * (x / 256 + x / 256 / 16) + (x % 256 + x % 256 / 16 + 16 * (x / 256 % 16)) := by omega
    show (x + x / 16) &&& (256 * mkB 15 n + 15) = bc3 (x % 256) + 256 * bmap bc3 n (x / 256)
    rw [q, land256 (by omega) (by decide), bc_c _ n1 _ n5, e]
    omega
theorem bmap_lt {g : Nat → Nat} (hg : ∀ r, r < 256 → g r < 256) : ∀ (n x : Nat), bmap g n x < 256 ^ n := by
  intro n
  induction n with
  | zero => intro x; exact Nat.one_pos
  | succ n ih => intro x; rw [pow256]; have := ih (x / 256); have := hg (x % 256) (by omega); unfold bmap; omega
theorem bmap_mod {g : Nat → Nat} (hg : ∀ r, r < 256 → g r < 256) (n x : Nat) : bmap g (n + 1) x % 256 = g (x % 256) ∧ bmap g (n + 1) x / 256 = bmap g n (x / 256) := by
  have := hg (x % 256) (by omega)
  show (g (x % 256) + 256 * bmap g n (x / 256)) % 256 = _ ∧ (g (x % 256) + 256 * bmap g n (x / 256)) / 256 = _
  omega
theorem bmap_comp {g k : Nat → Nat} (hg : ∀ r, r < 256 → g r < 256) : ∀ (n x : Nat), bmap k n (bmap g n x) = bmap (fun r => k (g r)) n x := by
  intro n
  induction n with
  | zero => intro x; rfl
  | succ n ih =>
    intro x
    have q := bmap_mod hg n x
    show k (bmap g (n + 1) x % 256) + 256 * bmap k n (bmap g (n + 1) x / 256) = k (g (x % 256)) + 256 * bmap (fun r => k (g r)) n (x / 256)
    rw [q.1, q.2, ih]
theorem bmap_cg {g k : Nat → Nat} (h : ∀ r, r < 256 → g r = k r) : ∀ (n x : Nat), bmap g n x = bmap k n x := by
  intro n
  induction n with
  | zero => intro x; rfl
  | succ n ih => intro x; unfold bmap; rw [h _ (by omega), ih]
theorem bmap_nib {g : Nat → Nat} (hg : ∀ r, r < 256 → g r < 69 ∧ g r % 16 < 5) : ∀ (n x : Nat), nib n (bmap g n x) := by
  intro n
  induction n with
  | zero => intro x; trivial
  | succ n ih =>
    intro x
    have q := bmap_mod (g := g) (fun r hr => by have := (hg r hr).1; omega) n x
    have := hg (x % 256) (by omega)
    exact ⟨by rw [q.1]; exact this.1, by rw [q.1]; exact this.2, by rw [q.2]; exact ih _⟩
/-- the first three steps -/
theorem bc_123 {n x a b : Nat} (hx : x < 256 ^ n) (ha : a = x - (x / 2 &&& mkB 85 n)) (hb : b = (a &&& mkB 51 n) + (a / 4 &&& mkB 51 n)) : b < 69 * 256 ^ n ∧ (b + b / 16) &&& mkB 15 n = bmap (pcN 8) n x := by
  have h1 : ∀ r, r < 256 → bc1 r < 256 := fun r hr => (bc_r r hr).1
  have ea : a = bmap bc1 n x := by rw [ha, bc_1 n x hx]
  have la : a < 256 ^ n := by rw [ea]; exact bmap_lt h1 n x
  have eb : b = bmap (fun r => bc2 (bc1 r)) n x := by rw [hb, bc_2 n a la, ea, bmap_comp h1]
  have lb : b < 256 ^ n := by rw [eb]; exact bmap_lt (fun r hr => by have := (bc_r r hr).2.1; omega) n x
  refine ⟨by omega, ?_⟩
  rw [bc_3 n b lb (by rw [eb]; exact bmap_nib (fun r hr => ⟨(bc_r r hr).2.1, (bc_r r hr).2.2.1⟩) n x), eb, bmap_comp (fun r hr => by have := (bc_r r hr).2.1; omega)]
  exact bmap_cg (fun r hr => (bc_r r hr).2.2.2) n x
theorem pcN_mod : ∀ (n x : Nat), pcN n (x % 2 ^ n) = pcN n x := by
  intro n
  induction n with
  | zero => intro x; rfl
  | succ n ih =>
    intro x
    show x % 2 ^ (n + 1) % 2 + pcN n (x % 2 ^ (n + 1) / 2) = x % 2 + pcN n (x / 2)
    rw [Nat.pow_succ, Nat.mul_comm (2 ^ n) 2, Nat.mod_mul_right_mod, Nat.mod_mul_right_div_self, ih]
def sm8 : Nat → Nat → Nat
  | 0, _ => 0
  | n + 1, x => x % 256 + sm8 n (x / 256)
theorem bc_sum : ∀ (n x : Nat), sm8 n (bmap (pcN 8) n x) = pcN (8 * n) x := by
  intro n
  induction n with
  | zero => intro x; rfl
  | succ n ih =>
    intro x
    have q := bmap_mod (g := pcN 8) (fun r _ => by have := pcN_le 8 r; omega) n x
    show bmap (pcN 8) (n + 1) x % 256 + sm8 n (bmap (pcN 8) (n + 1) x / 256) = _
    rw [q.1, q.2, ih, show 8 * (n + 1) = 8 + 8 * n by omega, pcN_add 8 (8 * n) x]
    have := pcN_mod 8 x
    show pcN 8 (x % 256) + _ = pcN 8 x + pcN (8 * n) (x / 256)
    rw [show pcN 8 (x % 256) = pcN 8 x from this]
end
section
/-! The last three adds. -/
theorem dv256 {r Y c : Nat} (hr : r < 256) (hc : c = r + 256 * Y) : c / 256 = Y ∧ c % 256 = r := by omega
theorem ca2 {a b X Y c d : Nat} (hc : c = a + 256 * X) (hd : d = b + 256 * Y) : c + d = (a + b) + 256 * (X + Y) := by omega
theorem cdd {c k : Nat} : c / 256 / 256 = c / 65536 ∧ c / 65536 / 65536 = c / 4294967296 := by
  rw [Nat.div_div_eq_div_mul, Nat.div_div_eq_div_mul]
  exact ⟨rfl, rfl⟩
theorem mod128 {s t : Nat} (h : s < 128) : (s + 256 * t) % 128 = s := by omega
theorem bxs {c X : Nat} {a : Nat} {n : Nat} (ha : a ≤ 8) (hX : X ≤ n) (hc : c = a + 256 * X) : c ≤ 8 + 256 * n := by omega
theorem bc_end {c d e f c0 c1 c2 c3 c4 c5 c6 X1 X2 X3 X4 X5 X6 X7 : Nat} (h0 : c0 ≤ 8) (h1 : c1 ≤ 8) (h2 : c2 ≤ 8) (h3 : c3 ≤ 8) (h4 : c4 ≤ 8) (h5 : c5 ≤ 8) (h6 : c6 ≤ 8) (h7 : X7 ≤ 8)
    (q0 : c = c0 + 256 * X1) (q1 : X1 = c1 + 256 * X2) (q2 : X2 = c2 + 256 * X3) (q3 : X3 = c3 + 256 * X4) (q4 : X4 = c4 + 256 * X5) (q5 : X5 = c5 + 256 * X6) (q6 : X6 = c6 + 256 * X7) (hd : d = c + c / 256) (he : e = d + d / 65536) (hf : f = e + e / 4294967296) : d < 2 ^ 64 ∧ e < 2 ^ 64 ∧ f < 2 ^ 64 ∧ f % 128 = c0 + c1 + c2 + c3 + c4 + c5 + c6 + X7 := by
  have b6 := bxs h6 h7 q6
  have b5 := bxs h5 b6 q5
  have b4 := bxs h4 b5 q4
  have b3 := bxs h3 b4 q3
  have b2 := bxs h2 b3 q2
  have b1 := bxs h1 b2 q1
  have b0 := bxs h0 b1 q0
  have z1 : c / 256 ≤ c := Nat.div_le_self _ _
  have z2 : d / 65536 ≤ d := Nat.div_le_self _ _
  have z3 : e / 4294967296 ≤ e := Nat.div_le_self _ _
  have cb : c ≤ 700000000000000000 := Nat.le_trans b0 (by decide)
  have db : d ≤ 1400000000000000000 := by clear b0 b1 b2 b3 b4 b5 b6 q0 q1 q2 q3 q4 q5 q6 he hf z2 z3; omega
  have eb : e ≤ 2800000000000000000 := by clear b0 b1 b2 b3 b4 b5 b6 q0 q1 q2 q3 q4 q5 q6 hd hf z1 z3; omega
  have fb : f ≤ 5600000000000000000 := by clear b0 b1 b2 b3 b4 b5 b6 q0 q1 q2 q3 q4 q5 q6 hd he z1 z2; omega
  refine ⟨Nat.lt_of_le_of_lt db (by decide), Nat.lt_of_le_of_lt eb (by decide), Nat.lt_of_le_of_lt fb (by decide), ?_⟩
  clear b0 b1 b2 b3 b4 b5 b6 cb db eb fb z1 z2 z3
  have x0 : c / 256 = X1 := (dv256 (by clear q0 q1 q2 q3 q4 q5 q6 hd he hf; omega) q0).1
  have y0 : d = (c0 + c1) + 256 * (X1 + X2) := by rw [hd, x0]; exact ca2 q0 q1
  have y1 : X1 + X2 = (c1 + c2) + 256 * (X2 + X3) := ca2 q1 q2
  have y2 : X2 + X3 = (c2 + c3) + 256 * (X3 + X4) := ca2 q2 q3
  have y3 : X3 + X4 = (c3 + c4) + 256 * (X4 + X5) := ca2 q3 q4
  have y4 : X4 + X5 = (c4 + c5) + 256 * (X5 + X6) := ca2 q4 q5
  have y5 : X5 + X6 = (c5 + c6) + 256 * (X6 + X7) := ca2 q5 q6
  have y6 : X6 + X7 = (c6 + X7) + 256 * (X7 + 0) := ca2 q6 (show X7 = X7 + 256 * 0 from rfl)
  have w0 : d / 65536 = X2 + X3 := by
    rw [← (cdd (k := 0)).1, (dv256 (by clear q0 q1 q2 q3 q4 q5 q6 hd he hf x0 y0 y1 y2 y3 y4 y5 y6; omega) y0).1, (dv256 (by clear q0 q1 q2 q3 q4 q5 q6 hd he hf x0 y0 y1 y2 y3 y4 y5 y6; omega) y1).1]
  have u0 : e = (c0 + c1 + (c2 + c3)) + 256 * (X1 + X2 + (X3 + X4)) := by rw [he, w0]; exact ca2 y0 y2
  have u1 : X1 + X2 + (X3 + X4) = (c1 + c2 + (c3 + c4)) + 256 * (X2 + X3 + (X4 + X5)) := ca2 y1 y3
  have u2 : X2 + X3 + (X4 + X5) = (c2 + c3 + (c4 + c5)) + 256 * (X3 + X4 + (X5 + X6)) := ca2 y2 y4
  have u3 : X3 + X4 + (X5 + X6) = (c3 + c4 + (c5 + c6)) + 256 * (X4 + X5 + (X6 + X7)) := ca2 y3 y5
  have u4 : X4 + X5 + (X6 + X7) = (c4 + c5 + (c6 + X7)) + 256 * (X5 + X6 + (X7 + 0)) := ca2 y4 y6
  clear q0 q1 q2 q3 q4 q5 q6 hd he x0 y0 y1 y2 y3 y4 y5 y6 w0
  have v0 : e / 4294967296 = X4 + X5 + (X6 + X7) := by
    rw [← (cdd (k := 0)).2, ← (cdd (k := 0)).1, ← (cdd (k := 0)).1, (dv256 (by clear hf u0 u1 u2 u3 u4; omega) u0).1, (dv256 (by clear hf u0 u1 u2 u3 u4; omega) u1).1, (dv256 (by clear hf u0 u1 u2 u3 u4; omega) u2).1, (dv256 (by clear hf u0 u1 u2 u3 u4; omega) u3).1]
  rw [hf, v0, ca2 u0 u4, mod128 (by clear hf u0 u1 u2 u3 u4 v0; omega)]
  clear hf u0 u1 u2 u3 u4 v0
  omega
end
section
/-! Long.bitCount of a set of fields. -/
def uN (x : Int64) : Nat := x.toBitVec.toNat
theorem uN_lt (x : Int64) : uN x < 2 ^ 64 := x.toBitVec.isLt
theorem uN_and (x y : Int64) : uN (x &&& y) = uN x &&& uN y := by
  unfold uN
  rw [Int64.toBitVec_and, BitVec.toNat_and]
theorem uN_add {x y : Int64} (h : uN x + uN y < 2 ^ 64) : uN (x + y) = uN x + uN y := by
  unfold uN at *
  rw [Int64.toBitVec_add, BitVec.toNat_add, Nat.mod_eq_of_lt h]
theorem uN_sub {x y : Int64} (h : uN y ≤ uN x) : uN (x - y) = uN x - uN y := by
  have := uN_lt x
  unfold uN at *
  rw [Int64.toBitVec_sub, BitVec.toNat_sub]
  omega
theorem uN_shr {k : Nat} (hk : k < 64) (x : Int64) : uN (jlushr x (nI k)) = uN x / 2 ^ k := by
  unfold uN jlushr
  rw [tb_cu k hk]
  show (x.toUInt64 >>> UInt64.ofNat k).toNat = _
  have h1 : (UInt64.ofNat k).toNat = k := by
    show (BitVec.ofNat 64 k).toNat = k
    rw [BitVec.toNat_ofNat, Nat.mod_eq_of_lt (by omega)]
  rw [UInt64.toNat_shiftRight, h1, Nat.mod_eq_of_lt hk, Nat.shiftRight_eq_div_pow]
  rfl
theorem pow8 : (256 : Nat) ^ 8 = 2 ^ 64 := by decide
theorem and127 {n : Nat} : n &&& 127 = n % 128 := Nat.and_two_pow_sub_one_eq_mod n 7
theorem to127 (x : Int64) : (x.toInt32 &&& (127 : Int32)) = nI (uN x % 128) := by
  apply Int32.toBitVec_inj.mp
  apply BitVec.eq_of_toNat_eq
  rw [Int32.toBitVec_and, BitVec.toNat_and]
  have h1 : (127 : Int32).toBitVec.toNat = 127 := by decide
  have h2 : x.toInt32.toBitVec.toNat = uN x % 2 ^ 32 := by
    rw [Int64.toBitVec_toInt32]
    unfold uN
    rw [BitVec.signExtend_eq_setWidth_of_le _ (by decide), BitVec.toNat_setWidth]
  have h3 : (nI (uN x % 128)).toBitVec.toNat = uN x % 128 := by
    show (BitVec.ofNat 32 (uN x % 128)).toNat = _
    rw [BitVec.toNat_ofNat]
    omega
  rw [h1, h2, h3, and127]
  omega
theorem mkB51 : mkB 51 8 = 3689348814741910323 := by decide
theorem uN_m5 : uN (6148914691236517205 : Int64) = mkB 85 8 := by decide
theorem uN_m3 : uN (3689348814741910323 : Int64) = mkB 51 8 := by decide
theorem uN_mf : uN (1085102592571150095 : Int64) = mkB 15 8 := by decide
theorem bt_a (x : Int64) : uN (x - (jlushr x (1 : Int32) &&& (6148914691236517205 : Int64))) = uN x - (uN x / 2 &&& mkB 85 8) := by
  have s1 : uN (jlushr x (1 : Int32)) = uN x / 2 := uN_shr (k := 1) (by decide) x
  have e1 : uN (jlushr x (1 : Int32) &&& (6148914691236517205 : Int64)) = (uN x / 2 &&& mkB 85 8) := by rw [uN_and, s1, uN_m5]
  have l : (uN x / 2 &&& mkB 85 8) ≤ uN x / 2 := Nat.and_le_left
  generalize mkB 85 8 = M at *
  rw [uN_sub (by rw [e1]; omega), e1]
theorem bt_b (a : Int64) : uN ((a &&& (3689348814741910323 : Int64)) + (jlushr a (2 : Int32) &&& (3689348814741910323 : Int64))) = (uN a &&& mkB 51 8) + (uN a / 4 &&& mkB 51 8) ∧ (uN a &&& mkB 51 8) + (uN a / 4 &&& mkB 51 8) ≤ 7378697629483820646 := by
  have s2 : uN (jlushr a (2 : Int32)) = uN a / 4 := uN_shr (k := 2) (by decide) a
  have e1 : uN (a &&& (3689348814741910323 : Int64)) = (uN a &&& mkB 51 8) := by rw [uN_and, uN_m3]
  have e2 : uN (jlushr a (2 : Int32) &&& (3689348814741910323 : Int64)) = (uN a / 4 &&& mkB 51 8) := by rw [uN_and, s2, uN_m3]
  have l1 : (uN a &&& mkB 51 8) ≤ mkB 51 8 := Nat.and_le_right
  have l2 : (uN a / 4 &&& mkB 51 8) ≤ mkB 51 8 := Nat.and_le_right
  have l3 := mkB51
  generalize mkB 51 8 = M at *
  have l4 : (uN a &&& M) + (uN a / 4 &&& M) ≤ 7378697629483820646 := by omega
  exact ⟨by rw [uN_add (by rw [e1, e2]; omega), e1, e2], l4⟩
theorem bt_c {b : Int64} (hb : uN b ≤ 7378697629483820646) : uN ((b + jlushr b (4 : Int32)) &&& (1085102592571150095 : Int64)) = (uN b + uN b / 16) &&& mkB 15 8 := by
  have s3 : uN (jlushr b (4 : Int32)) = uN b / 16 := uN_shr (k := 4) (by decide) b
  rw [uN_and, uN_mf, uN_add (by rw [s3]; omega), s3]
theorem bt_s {k : Nat} (hk : k < 64) {c : Int64} {C : Nat} (hc : uN c = C) (h : C + C / 2 ^ k < 2 ^ 64) : uN (c + jlushr c (nI k)) = C + C / 2 ^ k := by
  have s := uN_shr hk c
  rw [hc] at s
  rw [uN_add (by rw [s, hc]; exact h), s, hc]
theorem bmap_s (g : Nat → Nat) (n x : Nat) : bmap g (n + 1) x = g (x % 256) + 256 * bmap g n (x / 256) := rfl
theorem bmap_0 (g : Nat → Nat) (x : Nat) : bmap g 1 x = g (x % 256) := by
  show g (x % 256) + 256 * 0 = _
  omega
theorem bt_sum {g : Nat → Nat} (hg : ∀ r, g r ≤ 8) (x C : Nat) (hC : C = bmap g 8 x) : C + C / 256 < 2 ^ 64 ∧ C + C / 256 + (C + C / 256) / 65536 < 2 ^ 64 ∧ C + C / 256 + (C + C / 256) / 65536 + (C + C / 256 + (C + C / 256) / 65536) / 4294967296 < 2 ^ 64 ∧ (C + C / 256 + (C + C / 256) / 65536 + (C + C / 256 + (C + C / 256) / 65536) / 4294967296) % 128 = g (x % 256) + g (x / 256 % 256) + g (x / 256 / 256 % 256) + g (x / 256 / 256 / 256 % 256) + g (x / 256 / 256 / 256 / 256 % 256) + g (x / 256 / 256 / 256 / 256 / 256 % 256) + g (x / 256 / 256 / 256 / 256 / 256 / 256 % 256) + g (x / 256 / 256 / 256 / 256 / 256 / 256 / 256 % 256) :=
  bc_end (hg _) (hg _) (hg _) (hg _) (hg _) (hg _) (hg _) (hg _) (hC.trans (bmap_s g 7 x)) (bmap_s g 6 _) (bmap_s g 5 _) (bmap_s g 4 _) (bmap_s g 3 _) (bmap_s g 2 _) ((bmap_s g 1 _).trans (by rw [bmap_0])) rfl rfl rfl
theorem pcN_64 (x : Nat) : pcN 64 x = pcN 8 (x % 256) + pcN 8 (x / 256 % 256) + pcN 8 (x / 256 / 256 % 256) + pcN 8 (x / 256 / 256 / 256 % 256) + pcN 8 (x / 256 / 256 / 256 / 256 % 256) + pcN 8 (x / 256 / 256 / 256 / 256 / 256 % 256) + pcN 8 (x / 256 / 256 / 256 / 256 / 256 / 256 % 256) + pcN 8 (x / 256 / 256 / 256 / 256 / 256 / 256 / 256 % 256) := by
  have m : ∀ y, pcN 8 (y % 256) = pcN 8 y := fun y => pcN_mod 8 y
  have sp : ∀ n y, pcN (8 + n) y = pcN 8 y + pcN n (y / 256) := fun n y => pcN_add 8 n y
  simp only [m]
  have e : (64 : Nat) = 8 + (8 + (8 + (8 + (8 + (8 + (8 + 8)))))) := rfl
  rw [e, sp, sp, sp, sp, sp, sp, sp]
  simp only [Nat.add_assoc]
theorem s_bitCount0 (x : Int64) : f_Long_bitCount x = some (nI (pcN 64 (uN x))) := by
  have lx : uN x < 256 ^ 8 := by rw [pow8]; exact uN_lt x
  unfold f_Long_bitCount
  simp only [ev_bnd]
  have a1 := bt_a x
  generalize x - (jlushr x (1 : Int32) &&& (6148914691236517205 : Int64)) = a at *
  obtain ⟨b1, b2⟩ := bt_b a
  generalize (a &&& (3689348814741910323 : Int64)) + (jlushr a (2 : Int32) &&& (3689348814741910323 : Int64)) = b at *
  have k := (bc_123 lx a1 b1).2
  have c1 := bt_c (b := b) (by rw [b1]; exact b2)
  rw [k] at c1
  generalize ((b + jlushr b (4 : Int32)) &&& (1085102592571150095 : Int64)) = c at *
  obtain ⟨z1, z2, z3, z4⟩ := bt_sum (g := pcN 8) (pcN_le 8) (uN x) _ rfl
  rw [← pcN_64] at z4
  generalize bmap (pcN 8) 8 (uN x) = C at *
  have d1 : uN (c + jlushr c (8 : Int32)) = C + C / 256 := bt_s (k := 8) (by decide) c1 z1
  generalize c + jlushr c (8 : Int32) = d at *
  have e1 : uN (d + jlushr d (16 : Int32)) = _ := bt_s (k := 16) (by decide) d1 z2
  generalize d + jlushr d (16 : Int32) = e at *
  have f1 : uN (e + jlushr e (32 : Int32)) = _ := bt_s (k := 32) (by decide) e1 z3
  rw [to127, f1]
  exact congrArg (fun t => some (nI t)) z4
/-- how many of the numbers below n -/
def nmF (p : Nat → Bool) : Nat → Nat
  | 0 => 0
  | n + 1 => nmF p n + (if p n then 1 else 0)
theorem nmF_cg {p q : Nat → Bool} : ∀ {n : Nat}, (∀ i, i < n → p i = q i) → nmF p n = nmF q n
  | 0, _ => rfl
  | n + 1, h => by
    unfold nmF
    rw [nmF_cg (fun i hi => h i (by omega)), h n (by omega)]
theorem pcN_nm : ∀ (n x : Nat), pcN n x = nmF (fun i => x.testBit i) n := by
  intro n
  induction n with
  | zero => intro x; rfl
  | succ n ih =>
    intro x
    rw [pcN_add n 1 x, ih]
    show nmF _ n + ((x / 2 ^ n) % 2 + 0) = nmF _ n + (if x.testBit n then 1 else 0)
    rw [Nat.testBit_eq_decide_div_mod_eq]
    by_cases c : x / 2 ^ n % 2 = 1
    · simp [c]
    · have : x / 2 ^ n % 2 = 0 := by omega
      simp [this]
theorem s_bitCount {x : Int64} {p : Nat → Bool} (h : ∀ f, f < 64 → tb x f = p f) : f_Long_bitCount x = some (nI (nmF p 64)) := by
  rw [s_bitCount0, pcN_nm, nmF_cg (p := fun i => (uN x).testBit i) (q := p) (fun i hi => by rw [← h i hi]; rfl)]
end
section
/-! count of both sides. -/
theorem nmF_add (p : Nat → Bool) (a : Nat) : ∀ b, nmF p (a + b) = nmF p a + nmF (fun i => p (a + i)) b
  | 0 => rfl
  | b + 1 => by
    show nmF p (a + b) + (if p (a + b) then 1 else 0) = nmF p a + (nmF (fun i => p (a + i)) b + (if p (a + b) then 1 else 0))
    rw [nmF_add p a b]
    omega
theorem nmF_0 {p : Nat → Bool} : ∀ {n : Nat}, (∀ i, i < n → p i = false) → nmF p n = 0
  | 0, _ => rfl
  | n + 1, h => by
    unfold nmF
    rw [nmF_0 (fun i hi => h i (by omega)), h n (by omega)]
    rfl
def totF (p : Nat → Bool) (w : Nat) : Nat → Nat
  | 0 => 0
  | h + 1 => totF p w h + nmF (fun x => p (x + 8 * h)) w
theorem nm_tot (p : Nat → Bool) : ∀ h, nmF p (8 * h) = totF p 8 h
  | 0 => rfl
  | h + 1 => by
    rw [show 8 * (h + 1) = 8 * h + 8 by omega, nmF_add, nm_tot p h]
    show _ = totF p 8 h + nmF (fun x => p (x + 8 * h)) 8
    rw [nmF_cg (p := fun i => p (8 * h + i)) (q := fun x => p (x + 8 * h)) (fun i _ => by rw [Nat.add_comm])]
theorem nmF_cut {p : Nat → Bool} {w n : Nat} (hw : w ≤ n) (h : ∀ i, w ≤ i → i < n → p i = false) : nmF p n = nmF p w := by
  obtain ⟨d, rfl⟩ : ∃ d, n = w + d := ⟨n - w, by omega⟩
  rw [nmF_add, nmF_0 (p := fun i => p (w + i)) (fun i hi => h (w + i) (by omega) (by omega))]
  omega
theorem tot_w {p : Nat → Bool} {w : Nat} (hw : w ≤ 8) : ∀ {h : Nat}, (∀ x y, w ≤ x → x < 8 → y < h → p (x + 8 * y) = false) → totF p 8 h = totF p w h
  | 0, _ => rfl
  | h + 1, q => by
    unfold totF
    rw [tot_w hw (fun x y h1 h2 h3 => q x y h1 h2 (by omega)), nmF_cut (p := fun x => p (x + 8 * h)) hw (fun i h1 h2 => q i h h1 h2 (by omega))]
theorem tot_h {p : Nat → Bool} {w h : Nat} : ∀ d, (∀ x y, x < w → h ≤ y → p (x + 8 * y) = false) → totF p w (h + d) = totF p w h
  | 0, _ => rfl
  | d + 1, q => by
    show totF p w (h + d) + nmF (fun x => p (x + 8 * (h + d))) w = _
    rw [tot_h d q, nmF_0 (p := fun x => p (x + 8 * (h + d))) (fun i hi => q i (h + d) hi (by omega))]
    omega
theorem nm_in {p : Nat → Bool} {w h : Nat} (hw : w ≤ 8) (hh : h ≤ 8) (q : ∀ f, f < 64 → (w ≤ f % 8 ∨ h ≤ f / 8) → p f = false) : nmF p 64 = totF p w h := by
  rw [show 64 = 8 * 8 from rfl, nm_tot p 8, tot_w hw (fun x y h1 h2 h3 => q (x + 8 * y) (by omega) (by omega))]
  obtain ⟨d, e⟩ : ∃ d, 8 = h + d := ⟨8 - h, by omega⟩
  have : ∀ y, h ≤ y → y < 8 → ∀ x, x < w → p (x + 8 * y) = false := fun y h1 h2 x h3 => q (x + 8 * y) (by omega) (by omega)
  have t : ∀ d, h + d ≤ 8 → totF p w (h + d) = totF p w h := by
    intro d
    induction d with
    | zero => intro _; rfl
    | succ d ih =>
      intro hd
      show totF p w (h + d) + nmF (fun x => p (x + 8 * (h + d))) w = _
      rw [ih (by omega), nmF_0 (p := fun x => p (x + 8 * (h + d))) (fun i hi => this (h + d) (by omega) (by omega) i hi)]
      omega
  have := t d (by omega)
  rw [← e] at this
  exact this
theorem nm_3 {p q r : Nat → Bool} : ∀ {w : Nat}, (∀ i, i < w → r i = (!p i && !q i) ∧ (p i && q i) = false) → nmF p w + nmF q w + nmF r w = w
  | 0, _ => rfl
  | w + 1, h => by
    have e : nmF p w + nmF q w + nmF r w = w := nm_3 (p := p) (q := q) (r := r) (w := w) (fun i hi => h i (by omega))
    obtain ⟨h1, h2⟩ := h w (by omega)
    show nmF p w + (if p w then 1 else 0) + (nmF q w + (if q w then 1 else 0)) + (nmF r w + (if r w then 1 else 0)) = w + 1
    rw [h1]
    revert h2 e
    generalize nmF p w = a
    generalize nmF q w = b
    generalize nmF r w = c
    generalize p w = t
    generalize q w = u
    intro e h2
    cases t <;> cases u
    · show a + 0 + (b + 0) + (c + 1) = w + 1; omega
    · show a + 0 + (b + 1) + (c + 0) = w + 1; omega
    · show a + 1 + (b + 0) + (c + 0) = w + 1; omega
    · cases h2
theorem tot_3 {p q r : Nat → Bool} {w : Nat} : ∀ {h : Nat}, (∀ x y, x < w → y < h → r (x + 8 * y) = (!p (x + 8 * y) && !q (x + 8 * y)) ∧ (p (x + 8 * y) && q (x + 8 * y)) = false) → totF p w h + totF q w h + totF r w h = w * h
  | 0, _ => rfl
  | h + 1, z => by
    have e := tot_3 (w := w) (h := h) (fun x y h1 h2 => z x y h1 (by omega))
    have e2 := nm_3 (p := fun x => p (x + 8 * h)) (q := fun x => q (x + 8 * h)) (r := fun x => r (x + 8 * h)) (w := w) (fun i hi => z i h hi (by omega))
    unfold totF
    rw [Nat.mul_succ]
    omega
theorem tk_who {B : Bas} {P : Nat → Nat} (f : Nat) : tkA B P f = (whoN (fbA B P) (bn B) f).isSome := by
  cases e : whoN (fbA B P) (bn B) f with
  | none =>
    show tkA B P f = false
    rw [← Bool.not_eq_true, tkA_t]
    rintro ⟨c, h1, h2⟩
    rw [whoN_none.mp e c h1] at h2; cases h2
  | some c => rw [tkA_t.mpr ⟨c, whoN_mem e⟩]; rfl
def frF (B : Bas) (P : Nat → Nat) (f : Nat) : Bool := !bwl B f && !tkA B P f
theorem m_cntX {B : Bas} {P : Nat → Nat} {y : Nat} {kwl kwho : Nat → Int32} (h : basOk B) (hwl : rfW B kwl) (ho : rfO B P kwho) (hy : y < 8) (v1 : Int32) (a b : Nat) :
    ∀ (d x n : Nat), x + d = bw B → d < n → f_BargeBasinModel_count_L62 v1 (nI y) (nI (bw B)) kwl kwho n (nI (a + nmF (fun i => bwl B (i + 8 * y)) x)) (nI (b + nmF (fun i => frF B P (i + 8 * y)) x)) (nI x) = some (nI (a + nmF (fun i => bwl B (i + 8 * y)) (bw B)), nI (b + nmF (fun i => frF B P (i + 8 * y)) (bw B))) := by
  have w8 := h.2.1
  intro d
  induction d with
  | zero =>
    intro x n q hn
    obtain ⟨m, rfl⟩ : ∃ m, n = m + 1 := ⟨n - 1, by omega⟩
    have e : x = bw B := by omega
    subst e
    rw [f_BargeBasinModel_count_L62, if_pos (nI_le (Nat.le_refl _) (by omega))]
  | succ d ih =>
    intro x n q hn
    obtain ⟨m, rfl⟩ : ∃ m, n = m + 1 := ⟨n - 1, by omega⟩
    have e : nI x + (8 : Int32) * nI y = nI (x + 8 * y) := by rw [i8, nI_add]
    have i := ih (x + 1) m (by omega) (by omega)
    rw [f_BargeBasinModel_count_L62, if_neg (nI_ge (show x < bw B by omega) (by omega)), e]
    unfold f_BargeBasinModel_count_J93
    simp only [e, ev_grdN _ (show x + 8 * y < 64 by omega) (show 64 < 2 ^ 31 by decide), nI_clamp (show x + 8 * y < 2 ^ 31 by omega), ev_bnd, nI_1, hwl _ (show x + 8 * y < 64 by omega), ho _ (show x + 8 * y < 64 by omega)]
    rw [← i]
    show _ = f_BargeBasinModel_count_L62 v1 (nI y) (nI (bw B)) kwl kwho m (nI (a + (nmF (fun i => bwl B (i + 8 * y)) x + (if bwl B (x + 8 * y) then 1 else 0)))) (nI (b + (nmF (fun i => frF B P (i + 8 * y)) x + (if frF B P (x + 8 * y) then 1 else 0)))) (nI (x + 1))
    unfold frF
    rw [tk_who]
    cases bwl B (x + 8 * y) with
    | true =>
      rw [if_neg (show ¬ bI true = 0 by decide), if_neg (show ¬ bI true = 0 by decide)]
      show f_BargeBasinModel_count_L62 v1 (nI y) (nI (bw B)) kwl kwho m _ (nI _ + nI 0) _ = _
      rw [nI_add]
      rfl
    | false =>
      rw [if_pos (show bI false = 0 by decide), if_pos (show bI false = 0 by decide)]
      cases eo : whoN (fbA B P) (bn B) (x + 8 * y) with
      | none =>
        rw [if_neg (show ¬ 0 ≤ oI none by decide)]
        show f_BargeBasinModel_count_L62 v1 (nI y) (nI (bw B)) kwl kwho m (nI _ + nI 0) _ _ = _
        rw [nI_add]
        rfl
      | some c =>
        have hb := (whoN_mem eo).1
        have n12 := h.2.2.2.2.1
        have eI : oI (some c) = nI c := rfl
        rw [eI, if_pos (show (0 : Int32) ≤ nI c from Int32.not_lt.mp (nI_nn (by omega)))]
        show f_BargeBasinModel_count_L62 v1 (nI y) (nI (bw B)) kwl kwho m (nI _ + nI 0) (nI _ + nI 0) _ = _
        rw [nI_add, nI_add]
        rfl
theorem m_cntY {B : Bas} {P : Nat → Nat} {kwl kwho : Nat → Int32} (h : basOk B) (hwl : rfW B kwl) (ho : rfO B P kwho) (v1 : Int32) :
    ∀ (d y n : Nat), y + d = bh B → d < n → f_BargeBasinModel_count_L50 v1 (nI (bw B)) (nI (bh B)) kwl kwho n (nI (totF (bwl B) (bw B) y)) (nI (totF (frF B P) (bw B) y)) (nI y) = some (nI (totF (bwl B) (bw B) (bh B)), nI (totF (frF B P) (bw B) (bh B))) := by
  have w8 := h.2.1
  have h8 := h.2.2.2.1
  intro d
  induction d with
  | zero =>
    intro y n q hn
    obtain ⟨m, rfl⟩ : ∃ m, n = m + 1 := ⟨n - 1, by omega⟩
    have e : y = bh B := by omega
    subst e
    rw [f_BargeBasinModel_count_L50, if_pos (nI_le (Nat.le_refl _) (by omega))]
  | succ d ih =>
    intro y n q hn
    obtain ⟨m, rfl⟩ : ∃ m, n = m + 1 := ⟨n - 1, by omega⟩
    have e1 := m_cntX h hwl ho (show y < 8 by omega) v1 (totF (bwl B) (bw B) y) (totF (frF B P) (bw B) y) (bw B) 0 jN (by omega) (by show bw B < 2000000; omega)
    rw [f_BargeBasinModel_count_L50, if_neg (nI_ge (show y < bh B by omega) (by omega)), ev_b _ (show f_BargeBasinModel_count_L62 v1 (nI y) (nI (bw B)) kwl kwho jN (nI (totF (bwl B) (bw B) y)) (nI (totF (frF B P) (bw B) y)) 0 = _ from e1), un2_ap, ev_bnd, nI_1]
    exact ih (y + 1) m (by omega) (by omega)
theorem m_isFreed {B : Bas} {P : Nat → Nat} {kk kg khe : Nat → Int32} (h : basOk B) (hi : insA B P) (hk : ∀ b, b < bn B → kk b = nI (bK B b)) (hg : chG B kg) (hp : chP B P khe) : f_BargeBasinModel_isFreed (nI (bn B)) kk kg khe = some (bI (freedA B P)) := by
  have n12 := h.2.2.2.2.1
  have loop : ∀ (r b n : Nat), b + r = bn B → r < n → f_BargeBasinModel_isFreed_L2 (nI (bn B)) kk kg khe n (nI b) = some (if (List.range' b (bn B - b)).all (fun b => !(decide (bK B b = 5) && decide (P b ≠ bG B b))) then .inr () else .inl ()) := by
    intro r
    induction r with
    | zero =>
      intro b n h1 h2
      obtain ⟨n, rfl⟩ : ∃ z, n = z + 1 := ⟨n - 1, by omega⟩
      have e : b = bn B := by omega
      subst e
      rw [f_BargeBasinModel_isFreed_L2, if_pos (nI_le (Nat.le_refl _) (by omega))]
      simp
    | succ r ih =>
      intro b n h1 h2
      obtain ⟨n, rfl⟩ : ∃ z, n = z + 1 := ⟨n - 1, by omega⟩
      have hb : b < bn B := by omega
      obtain ⟨a1, a2, -⟩ := basOk_wh h hb
      have p64 := ins_64 h hi hb
      have c5 : (nI (bK B b) = 5) = (bK B b = 5) := nI_eqL (j := 5) (by omega) (by decide)
      rw [f_BargeBasinModel_isFreed_L2, if_neg (nI_ge hb (by omega)), ev_grdN _ a1 (by decide), ev_grdN _ a1 (by decide), ev_grdN _ a1 (by decide), cl_nI a1, hk b hb, hp b hb, all_from hb, ev_bnd, nI_1, ih (b + 1) n (by omega) (by omega)]
      simp only [c5]
      by_cases k5 : bK B b = 5
      · have g64 := h.2.2.2.2.2.2 b hb k5
        have ce : (nI (P b) = nI (bG B b)) = (P b = bG B b) := nI_eqL (by omega) (by omega)
        rw [hg b hb k5]
        simp only [ce]
        by_cases e : P b = bG B b
        · have be : (decide (bK B b = 5) && decide (P b ≠ bG B b)) = false := by simp [e]
          rw [be, Bool.not_false, Bool.true_and, if_pos k5, if_pos e]
        · have be : (decide (bK B b = 5) && decide (P b ≠ bG B b)) = true := by simp [k5, e]
          rw [be, if_pos k5, if_neg e]; rfl
      · have be : (decide (bK B b = 5) && decide (P b ≠ bG B b)) = false := by simp [k5]
        rw [be, Bool.not_false, Bool.true_and, if_neg k5]
  unfold f_BargeBasinModel_isFreed
  have e := loop (bn B) 0 jN (by omega) (by show bn B < 2000000; omega)
  rw [Nat.sub_zero, ← List.range_eq_range', nI_0] at e
  rw [ev_b _ e]
  unfold freedA
  cases (List.range (bn B)).all (fun b => !(decide (bK B b = 5) && decide (P b ≠ bG B b))) <;> rfl
theorem to7 {v : Int32} (h0 : ¬ v < 0) (h7 : v ≤ 7) : v = 0 ∨ v = 1 ∨ v = 2 ∨ v = 3 ∨ v = 4 ∨ v = 5 ∨ v = 6 ∨ v = 7 := by
  have t0 : (0 : Int32).toInt = 0 := rfl
  have t1 : (1 : Int32).toInt = 1 := by decide
  have t2 : (2 : Int32).toInt = 2 := by decide
  have t3 : (3 : Int32).toInt = 3 := by decide
  have t4 : (4 : Int32).toInt = 4 := by decide
  have t5 : (5 : Int32).toInt = 5 := by decide
  have t6 : (6 : Int32).toInt = 6 := by decide
  have t7 : (7 : Int32).toInt = 7 := by decide
  rw [Int32.lt_iff_toInt_lt, t0] at h0
  rw [Int32.le_iff_toInt_le, t7] at h7
  simp only [← Int32.toInt_inj, t0, t1, t2, t3, t4, t5, t6, t7]
  omega
theorem eq_count {B : Bas} {P : Nat → Nat} {cw chh cn : Int32} {cwl ct : Int64} {ck cp cl cg ca cwd chg : Nat → Int32} {cs : Nat → Int64} {khas kw kh kn : Int32} {kwl kk kat ks ky kg : Nat → Int32} {lf ld lu um rm : Int32} {lm ub uf ut rb rf rt : Nat → Int32} (h : basOk B) (hP : stC B P) (hc : chX B P cw chh cn cwl ct ck cp cl cg ca cwd chg cs) (hr : rfX B P khas kw kh kn kwl kk kat ks ky kg) (hl : lgR B P lf ld lu lm um rm ub uf ut rb rf rt) (ho : ∀ f, f < 64 → (bw B ≤ f % 8 ∨ bh B ≤ f / 8) → bwl B f = false) (v1 st st2 th : Int32) (kwho khe : Nat → Int32) :
    ∃ (ans st₉ : Int32) (kwho₉ khe₉ : Nat → Int32), f_BargeBasin_count v1 st cw chh cn cwl ct ck cp cg ld lu = some (ans, st₉) ∧ f_BargeBasinModel_count v1 st2 th khas kw kh kn um rm kwl kk kat ks ky kg kwho khe = some (ans, st₉, 0, kwho₉, khe₉) := by
  obtain ⟨c1, c2, c3, c4, c5, c6, c7, c8, c9⟩ := hc
  obtain ⟨r1, r2, r3, r4, r5, r6, r7, r8⟩ := hr
  obtain ⟨T, S, D, -, ⟨f0, -, -, l1, l2, -⟩, l3, l4, -⟩ := hl
  subst c1; subst c2; subst c3; subst r1; subst r2; subst r3; subst r4; subst l1; subst l2; subst l3; subst l4
  have w8 := h.2.1
  have h8 := h.2.2.2.1
  obtain ⟨kw1, kh1, e1, o1, p1⟩ := m_layAllB h hP.1.1 r6 r7 kwho khe
  have e2 := m_cntY h r5 o1 v1 (bh B) 0 jN (by omega) (by show bh B < 2000000; omega)
  have bt1 := s_bitCount c4
  have bt2 := s_bitCount c5
  have tki : ∀ f, f < 64 → (bw B ≤ f % 8 ∨ bh B ≤ f / 8) → tkA B P f = false := by
    intro f hf ha
    rw [← Bool.not_eq_true, tkA_t]
    rintro ⟨c, h1, h2⟩
    have := fb_w hP.1.1 h1 h2
    omega
  have n1 := nm_in w8 h8 ho
  have n2 := nm_in w8 h8 tki
  have n3 := tot_3 (p := bwl B) (q := tkA B P) (r := frF B P) (w := bw B) (h := bh B) (fun x y hx hy => ⟨rfl, by
    cases e : tkA B P (x + 8 * y) with
    | false => rw [Bool.and_false]
    | true =>
      obtain ⟨c, h1, h2⟩ := tkA_t.mp e
      rw [hP.1.2.2 c _ h1 (by omega) h2]; rfl⟩)
  have fr := s_isFreed h hP.1.1 (fun b hb => (c6 b hb).1) c7 c9
  have fr2 := m_isFreed h hP.1.1 (fun b hb => (r6 b hb).1) r8 p1
  unfold f_BargeBasin_count f_BargeBasinModel_count
  rw [ev_b _ (noBas h), if_pos rfl, if_neg (show ¬ (1 : Int32) = 0 by decide), ev_b _ bt1]
  have neg : ∀ v : Int32, v < 0 → ¬ v = 0 ∧ ¬ v = 1 ∧ ¬ v = 2 ∧ ¬ v = 3 ∧ ¬ v = 4 ∧ ¬ v = 5 ∧ ¬ v = 6 ∧ ¬ v = 7 := by
    intro v hv
    refine ⟨?_, ?_, ?_, ?_, ?_, ?_, ?_, ?_⟩ <;> (rintro rfl; exact absurd hv (by decide))
  have big : ∀ v : Int32, ¬ v ≤ 7 → ¬ v = 0 ∧ ¬ v = 1 ∧ ¬ v = 2 ∧ ¬ v = 3 ∧ ¬ v = 4 ∧ ¬ v = 5 ∧ ¬ v = 6 ∧ ¬ v = 7 := by
    intro v hv
    refine ⟨?_, ?_, ?_, ?_, ?_, ?_, ?_, ?_⟩ <;> (rintro rfl; exact absurd (by decide) hv)
  by_cases a : v1 < 0
  · obtain ⟨g0, g1, g2, g3, g4, g5, g6, g7⟩ := neg v1 a
    rw [if_neg g0, if_neg g1, if_neg g2, if_neg g3, if_neg g4, if_neg g5, if_neg g6, if_neg g7, if_pos a]
    exact ⟨_, _, _, _, rfl, rfl⟩
  · rw [if_neg a]
    by_cases z : v1 ≤ 7
    · rw [if_pos z, ev_b _ e1, un2_ap, ev_b _ (show f_BargeBasinModel_count_L50 v1 (nI (bw B)) (nI (bh B)) kwl kw1 jN 0 0 0 = _ from e2), un2_ap]
      rcases to7 a z with e | e | e | e | e | e | e | e <;> subst e
      · exact ⟨_, _, _, _, rfl, rfl⟩
      · exact ⟨_, _, _, _, rfl, rfl⟩
      · exact ⟨_, _, _, _, rfl, rfl⟩
      · rw [n1]; exact ⟨_, _, _, _, rfl, rfl⟩
      · have ev : nI (bw B) * nI (bh B) - nI (nmF (bwl B) 64) - nI (nmF (tkA B P) 64) = nI (totF (frF B P) (bw B) (bh B)) := by
          rw [n1, n2, pk_mul, ← n3]
          have sb : ∀ a b, nI (a + b) - nI a = nI b := fun a b => by rw [← nI_add, Int32.add_comm, Int32.add_sub_cancel]
          rw [Nat.add_assoc, sb, sb]
        refine ⟨nI (totF (frF B P) (bw B) (bh B)), 0, kw1, kh1, ?_, rfl⟩
        rw [ev_b _ bt2, ev]; rfl
      · rw [ev_b _ fr, ev_b _ fr2]
        cases freedA B P
        · exact ⟨_, _, _, _, rfl, rfl⟩
        · exact ⟨_, _, _, _, rfl, rfl⟩
      · exact ⟨_, _, _, _, rfl, rfl⟩
      · exact ⟨_, _, _, _, rfl, rfl⟩
    · obtain ⟨g0, g1, g2, g3, g4, g5, g6, g7⟩ := big v1 z
      rw [if_neg g0, if_neg g1, if_neg g2, if_neg g3, if_neg g4, if_neg g5, if_neg g6, if_neg g7, if_neg z]
      exact ⟨_, _, _, _, rfl, rfl⟩
end
section
/-! low of both sides: the ways of the red ones that are away from their gates. -/
def rwA (y m S k f : Nat) : Bool := if y = 0 then decide (0 < k ∧ f / 8 = m / 8 ∧ m % 8 ≤ f % 8 ∧ f % 8 + 1 < m % 8 + k + S) else decide (0 < k ∧ f % 8 = m % 8 ∧ m / 8 ≤ f / 8 ∧ f / 8 + 1 < m / 8 + k + S)
def stp (y : Nat) : Nat := if y = 0 then 1 else 8
theorem rwA_s0 {m S k f : Nat} (hf : f < 64) (hS : 1 ≤ S) (hk : m % 8 + k + S ≤ 8) : rwA 0 m S (k + 1) f = (rwA 0 m S k f || inB ((m + k) % 8) ((m + k) / 8) S 1 f) := by
  unfold rwA inB
  rw [if_pos rfl, if_pos rfl, Bool.eq_iff_iff]
  simp only [Bool.or_eq_true, Bool.and_eq_true, decide_eq_true_eq]
  omega
theorem rwA_s1 {m S k f : Nat} (hf : f < 64) (hS : 1 ≤ S) (hk : m / 8 + k + S ≤ 8) : rwA 1 m S (k + 1) f = (rwA 1 m S k f || inB ((m + 8 * k) % 8) ((m + 8 * k) / 8) 1 S f) := by
  unfold rwA inB
  rw [if_neg (by decide), if_neg (by decide), Bool.eq_iff_iff]
  simp only [Bool.or_eq_true, Bool.and_eq_true, decide_eq_true_eq]
  omega
theorem s_wayL {y b m S q : Nat} {ks : Nat → Int64} (hb : b < 12) (hy : y < 2) (hS : 1 ≤ S) (hS5 : S < 5) (hm : m < 64) (hs : ks b = shp (if y = 0 then S else 1) (if y = 0 then 1 else S)) (hq : (y = 0 → m % 8 + q + S ≤ 8) ∧ (y = 1 → m / 8 + q + S ≤ 8)) :
    ∀ (r k n : Nat) (v : Int64), k + r = q + 1 → r < n → (∀ f, f < 64 → tb v f = rwA y m S k f) → ∃ V, f_Chart_wayOf_L55 (nI b) (nI (stp y)) (nI (m + stp y * q)) ks n v (nI (m + stp y * k)) = some V ∧ ∀ f, f < 64 → tb V f = rwA y m S (q + 1) f := by
  intro r
  induction r with
  | zero =>
    intro k n v h1 h2 h3
    obtain ⟨n, rfl⟩ : ∃ z, n = z + 1 := ⟨n - 1, by omega⟩
    have e : k = q + 1 := by omega
    subst e
    have hy₉ : y = 0 ∨ y = 1 := by omega
    refine ⟨v, ?_, h3⟩
    have lt : (nI (m + stp y * q) < nI (m + stp y * (q + 1))) = (m + stp y * q < m + stp y * (q + 1)) := nI_ltE (by rcases hy₉ with e | e <;> subst e <;> simp [stp] at hq ⊢ <;> omega) (by rcases hy₉ with e | e <;> subst e <;> simp [stp] at hq ⊢ <;> omega)
    rw [f_Chart_wayOf_L55, if_pos (by rw [lt]; rcases hy₉ with e | e <;> subst e <;> simp [stp] <;> omega)]
  | succ r ih =>
    intro k n v h1 h2 h3
    obtain ⟨n, rfl⟩ : ∃ z, n = z + 1 := ⟨n - 1, by omega⟩
    have hy₉ : y = 0 ∨ y = 1 := by omega
    have lt : (nI (m + stp y * q) < nI (m + stp y * k)) = (m + stp y * q < m + stp y * k) := nI_ltE (by rcases hy₉ with e | e <;> subst e <;> simp [stp] at hq ⊢ <;> omega) (by rcases hy₉ with e | e <;> subst e <;> simp [stp] at hq ⊢ <;> omega)
    have nx : nI (m + stp y * k) + nI (stp y) = nI (m + stp y * (k + 1)) := by rw [nI_add, Nat.mul_add, Nat.mul_one, Nat.add_assoc]
    rw [f_Chart_wayOf_L55, if_neg (by rw [lt]; rcases hy₉ with e | e <;> subst e <;> simp [stp] <;> omega), ev_grdN _ hb (by decide), cl_nI hb, ev_bnd, ev_bnd, nx, hs]
    refine ih (k + 1) n _ (by omega) (by omega) (fun f hf => ?_)
    rw [tb_or, h3 f hf]
    rcases hy₉ with e | e
    · subst e
      have hq₉ := hq.1 rfl
      rw [rwA_s0 hf hS (by omega), if_pos rfl, if_pos rfl, show m + stp 0 * k = m + k by simp [stp], shp_at (by omega) hS5 (by decide) (by omega) hf]
    · subst e
      have hq₉ := hq.2 rfl
      rw [rwA_s1 hf hS (by omega), if_neg (by decide), if_neg (by decide), show m + stp 1 * k = m + 8 * k by simp [stp], shp_at (by omega) (by decide) hS5 (by omega) hf]
/-- the least of place and gate; how many steps lie between them -/
def loA (B : Bas) (P : Nat → Nat) (b : Nat) : Nat := min (P b) (bG B b)
def qqA (B : Bas) (P : Nat → Nat) (b : Nat) : Nat := if bY B b = 0 then max (P b) (bG B b) % 8 - loA B P b % 8 else max (P b) (bG B b) / 8 - loA B P b / 8
theorem way_geo {B : Bas} {P : Nat → Nat} {b : Nat} (h : basOk B) (hP : stC B P) (hb : b < bn B) (k5 : bK B b = 5) :
    loA B P b < 64 ∧ max (P b) (bG B b) = loA B P b + stp (bY B b) * qqA B P b ∧ ((bY B b = 0 → loA B P b % 8 + qqA B P b + bS B b ≤ 8) ∧ (bY B b = 1 → loA B P b / 8 + qqA B P b + bS B b ≤ 8)) ∧ 2 ≤ bS B b ∧ bS B b < 5 ∧ xW B b = (if bY B b = 0 then bS B b else 1) ∧ xH B b = (if bY B b = 0 then 1 else bS B b) ∧ bY B b < 2 := by
  have w8 := h.2.1
  have h8 := h.2.2.2.1
  obtain ⟨l1, l2, l3⟩ := h.2.2.2.2.2.1 b hb
  have S2 : 2 ≤ bS B b ∧ bS B b ≤ 4 := by unfold lenOk at l1; omega
  obtain ⟨g1, g2, g3, g4⟩ := hP.2.2 b hb k5
  obtain ⟨i1, i2⟩ := hP.1.1 b hb
  have y01 : bY B b = 0 ∨ bY B b = 1 := by omega
  have p64 := ins_64 h hP.1.1 hb
  have g64 := h.2.2.2.2.2.2 b hb k5
  have xw : xW B b = (if bY B b = 0 then bS B b else 1) := by unfold xW bW; rw [k5]; rcases y01 with e | e <;> rw [e] <;> rfl
  have xh : xH B b = (if bY B b = 0 then 1 else bS B b) := by unfold xH bH; rw [k5]; rcases y01 with e | e <;> rw [e] <;> rfl
  refine ⟨by unfold loA; omega, ?_, ?_, S2.1, by omega, xw, xh, l2⟩
  · unfold qqA loA stp
    rcases y01 with e | e
    · have := g1 e
      rw [if_pos e, if_pos e]
      omega
    · have := g2 e
      rw [if_neg (by omega), if_neg (by omega)]
      omega
  · unfold qqA loA
    rw [xw] at i1 g3
    rw [xh] at i2 g4
    refine ⟨fun e => ?_, fun e => ?_⟩
    · have := g1 e
      rw [if_pos e] at i1 g3
      rw [if_pos e]
      omega
    · have := g2 e
      rw [if_neg (by omega)] at i2 g4
      rw [if_neg (by omega)]
      omega
def awA (B : Bas) (P : Nat → Nat) (b : Nat) : Bool := decide (bK B b = 5) && decide (P b ≠ bG B b)
def wyA (B : Bas) (P : Nat → Nat) (b f : Nat) : Bool := rwA (bY B b) (loA B P b) (bS B b) (qqA B P b + 1) f
theorem mmI {a b : Nat} (ha : a < 64) (hb : b < 64) : (if nI b < nI a then nI b else nI a) = nI (min a b) ∧ (if nI a < nI b then nI b else nI a) = nI (max a b) := by
  have e1 : (nI b < nI a) = (b < a) := nI_ltE (by omega) (by omega)
  have e2 : (nI a < nI b) = (a < b) := nI_ltE (by omega) (by omega)
  simp only [e1, e2]
  constructor
  · by_cases c : b < a
    · rw [if_pos c, Nat.min_eq_right (by omega)]
    · rw [if_neg c, Nat.min_eq_left (by omega)]
  · by_cases c : a < b
    · rw [if_pos c, Nat.max_eq_right (by omega)]
    · rw [if_neg c, Nat.max_eq_left (by omega)]
theorem s_wayOf {B : Bas} {P : Nat → Nat} {b : Nat} {kk ka kw kh kp kg : Nat → Int32} {ks : Nat → Int64} (h : basOk B) (hP : stC B P) (hc : chB B kk ka kw kh ks) (hp : chP B P kp) (hg : chG B kg) (hb : b < bn B) (k5 : bK B b = 5) : ∃ V, f_Chart_wayOf (nI b) kp kg ka ks = some V ∧ ∀ f, f < 64 → tb V f = wyA B P b f := by
  obtain ⟨o1, o2, o3, o4, o5, o6, o7, o8⟩ := way_geo h hP hb k5
  have b12 := (basOk_wh h hb).1
  have p64 := ins_64 h hP.1.1 hb
  have g64 := h.2.2.2.2.2.2 b hb k5
  obtain ⟨c1, c2, c3, c4, c5⟩ := hc b hb
  have q7 : qqA B P b ≤ 7 := by
    have y2 : bY B b = 0 ∨ bY B b = 1 := by omega
    rcases y2 with e | e
    · have := o3.1 e; omega
    · have := o3.2 e; omega
  obtain ⟨V, v1, v2⟩ := s_wayL (ks := ks) (q := qqA B P b) b12 o8 (show 1 ≤ bS B b by omega) o5 o1 (by rw [c5, o6, o7]) o3 (qqA B P b + 1) 0 jN 0 (by omega) (by show qqA B P b + 1 < 2000000; omega) (fun f hf => by rw [tb_0]; unfold rwA; split <;> simp)
  refine ⟨V, ?_, v2⟩
  have mm := mmI p64 g64
  have J : f_Chart_wayOf_J15 (nI b) (nI (stp (bY B b))) kp kg ks = some V := by
    unfold f_Chart_wayOf_J15
    simp only [ev_grdN _ b12 (show 12 < 2 ^ 31 by decide), cl_nI b12, hp b hb, hg b hb k5, mm.1, mm.2, ev_bnd]
    rw [o2]
    rw [ev_b _ (show f_Chart_wayOf_L55 (nI b) (nI (stp (bY B b))) (nI (loA B P b + stp (bY B b) * qqA B P b)) ks jN 0 (nI (min (P b) (bG B b))) = some V from v1)]
  unfold f_Chart_wayOf
  rw [ev_grdN _ b12 (by decide), cl_nI b12, c2]
  by_cases e : bY B b = 1
  · rw [decide_eq_true e, if_neg (show ¬ bI true = 0 by decide)]
    rw [e] at J; exact J
  · rw [decide_eq_false e, if_pos (show bI false = 0 by decide)]
    rw [show bY B b = 0 by omega] at J; exact J
def ovA (B : Bas) (P : Nat → Nat) (n f : Nat) : Bool := (List.range n).any fun b => awA B P b && wyA B P b f
theorem any_s {p : Nat → Bool} {n : Nat} : (List.range (n + 1)).any p = ((List.range n).any p || p n) := by
  rw [List.range_succ, List.any_append]
  simp
theorem s_lowL4 {B : Bas} {P : Nat → Nat} {kk ka kw kh kp kg : Nat → Int32} {ks : Nat → Int64} (h : basOk B) (hP : stC B P) (hc : chB B kk ka kw kh ks) (hp : chP B P kp) (hg : chG B kg) : ∀ (r b n : Nat) (v : Int64), b + r = bn B → r < n → (∀ f, f < 64 → tb v f = ovA B P b f) → ∃ V, f_Chart_countLow_L4 (nI (bn B)) kk kp kg ka ks n v (nI b) = some V ∧ ∀ f, f < 64 → tb V f = ovA B P (bn B) f := by
  have n12 := h.2.2.2.2.1
  intro r
  induction r with
  | zero =>
    intro b n v h1 h2 h3
    obtain ⟨n, rfl⟩ : ∃ z, n = z + 1 := ⟨n - 1, by omega⟩
    have e : b = bn B := by omega
    subst e
    exact ⟨v, by rw [f_Chart_countLow_L4, if_pos (nI_le (Nat.le_refl _) (by omega))], h3⟩
  | succ r ih =>
    intro b n v h1 h2 h3
    obtain ⟨n, rfl⟩ : ∃ z, n = z + 1 := ⟨n - 1, by omega⟩
    have hb : b < bn B := by omega
    obtain ⟨a1, a2, -⟩ := basOk_wh h hb
    rw [f_Chart_countLow_L4, if_neg (nI_ge hb (by omega)), ev_b _ (s_isAway2 a1 (hc b hb).1 (hp b hb) (hg b hb) a2 (ins_64 h hP.1.1 hb) (h.2.2.2.2.2.2 b hb))]
    have nx : ∀ f, ovA B P (b + 1) f = (ovA B P b f || (awA B P b && wyA B P b f)) := fun f => any_s
    cases e : awA B P b with
    | false =>
      rw [show (decide (bK B b = 5) && decide (P b ≠ bG B b)) = false from e, if_pos (show bI false = 0 by decide), ev_bnd, nI_1]
      exact ih (b + 1) n v (by omega) (by omega) (fun f hf => by rw [h3 f hf, nx, e]; simp)
    | true =>
      have k5 : bK B b = 5 := by unfold awA at e; rw [Bool.and_eq_true, decide_eq_true_eq] at e; exact e.1
      obtain ⟨V, v1, v2⟩ := s_wayOf h hP hc hp hg hb k5
      rw [show (decide (bK B b = 5) && decide (P b ≠ bG B b)) = true from e, if_neg (show ¬ bI true = 0 by decide), ev_b _ v1, ev_bnd, ev_bnd, nI_1]
      exact ih (b + 1) n _ (by omega) (by omega) (fun f hf => by rw [tb_or, h3 f hf, v2 f hf, nx, e]; simp)
def lwA (B : Bas) (P : Nat → Nat) (c : Nat) : Bool := anyF fun f => fbA B P c f && ovA B P (bn B) f
theorem s_lowL39 {B : Bas} {P : Nat → Nat} {V : Int64} {kk ka kw kh kp : Nat → Int32} {ks : Nat → Int64} (h : basOk B) (hP : stC B P) (hc : chB B kk ka kw kh ks) (hp : chP B P kp) (hV : ∀ f, f < 64 → tb V f = ovA B P (bn B) f) : ∀ (r b n : Nat), b + r = bn B → r < n → f_Chart_countLow_L39 V (nI (bn B)) kp ks n (nI (nmF (lwA B P) b)) (nI b) = some (nI (nmF (lwA B P) (bn B))) := by
  have n12 := h.2.2.2.2.1
  intro r
  induction r with
  | zero =>
    intro b n h1 h2
    obtain ⟨n, rfl⟩ : ∃ z, n = z + 1 := ⟨n - 1, by omega⟩
    have e : b = bn B := by omega
    subst e
    rw [f_Chart_countLow_L39, if_pos (nI_le (Nat.le_refl _) (by omega))]
  | succ r ih =>
    intro b n h1 h2
    obtain ⟨n, rfl⟩ : ∃ z, n = z + 1 := ⟨n - 1, by omega⟩
    have hb : b < bn B := by omega
    obtain ⟨x, x1, x2⟩ := s_fields h hP.1.1 hc hp hb
    have i := ih (b + 1) n (by omega) (by omega)
    have e : ((x &&& V) = 0) = (lwA B P b = false) := by
      apply propext
      unfold lwA
      rw [tb_zero, anyF_f]
      exact ⟨fun q f hf => by rw [← x2 f hf, ← hV f hf, ← tb_and]; exact q f hf, fun q f hf => by rw [tb_and, x2 f hf, hV f hf]; exact q f hf⟩
    rw [f_Chart_countLow_L39, if_neg (nI_ge hb (by omega)), ev_b _ x1]
    simp only [cmp0, e, ev_bnd, nI_1]
    rw [← i]
    show _ = f_Chart_countLow_L39 V (nI (bn B)) kp ks n (nI (nmF (lwA B P) b + (if lwA B P b then 1 else 0))) (nI (b + 1))
    cases lwA B P b with
    | false => rw [if_pos rfl]; rfl
    | true => rw [if_neg (by decide)]; rfl
theorem s_low {B : Bas} {P : Nat → Nat} {cw chh cn : Int32} {cwl ct : Int64} {ck cp cl cg ca cwd chg : Nat → Int32} {cs : Nat → Int64} (h : basOk B) (hP : stC B P) (hc : chX B P cw chh cn cwl ct ck cp cl cg ca cwd chg cs) (st : Int32) : f_BargeBasin_low st cw cn ck cp cg ca cs = some (nI (nmF (lwA B P) (bn B)), 0) := by
  obtain ⟨c1, c2, c3, c4, c5, c6, c7, c8, c9⟩ := hc
  subst c1; subst c2; subst c3
  have n12 := h.2.2.2.2.1
  obtain ⟨V, v1, v2⟩ := s_lowL4 h hP c6 c7 c9 (bn B) 0 jN 0 (by omega) (by show bn B < 2000000; omega) (fun f _ => by rw [tb_0]; rfl)
  have v3 := s_lowL39 h hP c6 c7 v2 (bn B) 0 jN (by omega) (by show bn B < 2000000; omega)
  unfold f_BargeBasin_low f_Chart_countLow
  rw [ev_b _ (noBas h), if_pos rfl, ev_b (x := f_Chart_countLow_L4 (nI (bn B)) ck cp cg ca cs jN 0 0) _ v1, ev_b (x := f_Chart_countLow_L39 V (nI (bn B)) cp cs jN 0 0) _ v3]
  rfl
end
section
/-! low of the reference. -/
def whAt (B : Bas) (P : Nat → Nat) (f c : Nat) : Bool := decide (whoN (fbA B P) (bn B) f = some c)
theorem whAt_e {B : Bas} {P : Nat → Nat} {f c : Nat} (hP : stC B P) (hf : f < 64) (hc : c < bn B) : whAt B P f c = fbA B P c f := by
  unfold whAt
  rw [Bool.eq_iff_iff, decide_eq_true_eq, whoN_some hP.1.2.1 hf]
  exact ⟨fun z => z.2, fun z => ⟨hc, z⟩⟩
theorem nar1 : vp_nar .boolean (1 : Int32) = 1 := nar_bI true
theorem m_swL {B : Bas} {P : Nat → Nat} {m g J : Nat} {kwho : Nat → Int32} (h : basOk B) (ho : rfO B P kwho) (hg : 1 ≤ g) (hg8 : g ≤ 8) (hJ : m + g * J < 64) :
    ∀ (r i n : Nat) (kc : Nat → Int32) (p : Nat → Bool), i + r = J + 1 → r < n → (∀ c, c < bn B → kc c = bI (p c)) → ∃ kc₉, f_BargeBasinModel_sweep_L70 (nI g) (nI (m + g * J)) kwho n (nI (m + g * i)) kc = some kc₉ ∧ ∀ c, c < bn B → kc₉ c = bI (p c || (List.range' i r).any fun t => whAt B P (m + g * t) c) := by
  have n12 := h.2.2.2.2.1
  intro r
  induction r with
  | zero =>
    intro i n kc p h1 h2 h3
    obtain ⟨n, rfl⟩ : ∃ z, n = z + 1 := ⟨n - 1, by omega⟩
    have e : i = J + 1 := by omega
    subst e
    have e8 : g * (J + 1) = g * J + g := by rw [Nat.mul_add, Nat.mul_one]
    have lt : (nI (m + g * J) < nI (m + g * (J + 1))) = (m + g * J < m + g * (J + 1)) := nI_ltE (by omega) (by rw [e8]; omega)
    refine ⟨kc, ?_, fun c hc => by rw [h3 c hc]; simp⟩
    rw [f_BargeBasinModel_sweep_L70, if_pos (by rw [lt, e8]; omega)]
  | succ r ih =>
    intro i n kc p h1 h2 h3
    obtain ⟨n, rfl⟩ : ∃ z, n = z + 1 := ⟨n - 1, by omega⟩
    have mono : g * i ≤ g * J := Nat.mul_le_mul_left _ (by omega)
    have lt : (nI (m + g * J) < nI (m + g * i)) = (m + g * J < m + g * i) := nI_ltE (by omega) (by omega)
    have nx : nI (m + g * i) + nI g = nI (m + g * (i + 1)) := by rw [nI_add, Nat.mul_add, Nat.mul_one, Nat.add_assoc]
    have f64 : m + g * i < 64 := by omega
    rw [f_BargeBasinModel_sweep_L70, if_neg (by rw [lt]; omega), nx]
    simp only [ev_grdN _ f64 (show 64 < 2 ^ 31 by decide), nI_clamp (show m + g * i < 2 ^ 31 by omega), ev_bnd, ho _ f64]
    cases eo : whoN (fbA B P) (bn B) (m + g * i) with
    | none =>
      rw [if_pos (show oI none < 0 by decide)]
      obtain ⟨kc₉, e1, e2⟩ := ih (i + 1) n kc p (by omega) (by omega) h3
      refine ⟨kc₉, e1, fun c hc => ?_⟩
      rw [e2 c hc, List.range'_succ, List.any_cons, show whAt B P (m + g * i) c = false by unfold whAt; rw [eo]; simp, Bool.false_or]
    | some a =>
      have ha := (whoN_mem eo).1
      rw [show oI (some a) = nI a from rfl, if_neg (nI_nn (by omega)), ev_grdN _ (show a < 12 by omega) (by decide), cl_nI (show a < 12 by omega), nar1]
      obtain ⟨kc₉, e1, e2⟩ := ih (i + 1) n (upd kc a 1) (fun c => p c || decide (c = a)) (by omega) (by omega) (fun c hc => by
        by_cases z : c = a
        · subst z; rw [pk_us]; simp [bI]
        · rw [pk_un z, h3 c hc]; simp [z])
      refine ⟨kc₉, e1, fun c hc => ?_⟩
      have w : whAt B P (m + g * i) c = decide (c = a) := by
        unfold whAt; rw [eo]
        by_cases z : c = a
        · subst z; simp
        · simp [z]; exact fun q => z q.symm
      rw [e2 c hc, List.range'_succ, List.any_cons, w, Bool.or_assoc]
/-- the fields that sweep goes over are those of the way -/
theorem way_any {B : Bas} {P : Nat → Nat} {b c : Nat} (h : basOk B) (hP : stC B P) (hb : b < bn B) (hc : c < bn B) (k5 : bK B b = 5) : ((List.range' 0 (qqA B P b + bS B b)).any fun t => whAt B P (loA B P b + stp (bY B b) * t) c) = anyF fun f => fbA B P c f && wyA B P b f := by
  obtain ⟨o1, o2, o3, o4, o5, o6, o7, o8⟩ := way_geo h hP hb k5
  have y2 : bY B b = 0 ∨ bY B b = 1 := by omega
  rw [Bool.eq_iff_iff, anyF_t, List.any_eq_true]
  constructor
  · rintro ⟨t, t1, t2⟩
    rw [List.mem_range'_1] at t1
    rcases y2 with e | e
    · have q := o3.1 e
      rw [e, show stp 0 = 1 from rfl, Nat.one_mul] at t2
      rw [whAt_e hP (by omega) hc] at t2
      refine ⟨loA B P b + t, by omega, ?_⟩
      rw [t2, Bool.true_and]
      unfold wyA rwA
      rw [if_pos e, decide_eq_true_eq]
      omega
    · have q := o3.2 e
      rw [e, show stp 1 = 8 from rfl] at t2
      rw [whAt_e hP (by omega) hc] at t2
      refine ⟨loA B P b + 8 * t, by omega, ?_⟩
      rw [t2, Bool.true_and]
      unfold wyA rwA
      rw [if_neg (by omega), decide_eq_true_eq]
      omega
  · rintro ⟨f, f1, f2⟩
    rw [Bool.and_eq_true] at f2
    obtain ⟨f3, f4⟩ := f2
    unfold wyA rwA at f4
    rcases y2 with e | e
    · rw [if_pos e, decide_eq_true_eq] at f4
      refine ⟨f - loA B P b, by rw [List.mem_range'_1]; omega, ?_⟩
      rw [e, show stp 0 = 1 from rfl, Nat.one_mul, show loA B P b + (f - loA B P b) = f by omega, whAt_e hP f1 hc]
      exact f3
    · rw [if_neg (by omega), decide_eq_true_eq] at f4
      refine ⟨f / 8 - loA B P b / 8, by rw [List.mem_range'_1]; omega, ?_⟩
      rw [e, show stp 1 = 8 from rfl, show loA B P b + 8 * (f / 8 - loA B P b / 8) = f by omega, whAt_e hP f1 hc]
      exact f3
theorem own_way {B : Bas} {P : Nat → Nat} {b : Nat} (h : basOk B) (hP : stC B P) (hb : b < bn B) (k5 : bK B b = 5) : (anyF fun f => fbA B P b f && wyA B P b f) = true := by
  obtain ⟨o1, o2, o3, o4, o5, o6, o7, o8⟩ := way_geo h hP hb k5
  obtain ⟨g1, g2, g3, g4⟩ := hP.2.2 b hb k5
  have y2 : bY B b = 0 ∨ bY B b = 1 := by omega
  rw [anyF_t]
  refine ⟨P b, ins_64 h hP.1.1 hb, ?_⟩
  rw [fb_own h hb, Bool.true_and]
  unfold wyA rwA qqA loA
  rcases y2 with e | e
  · have := g1 e
    rw [if_pos e, if_pos e, decide_eq_true_eq]
    omega
  · have := g2 e
    rw [if_neg (by omega), if_neg (by omega), decide_eq_true_eq]
    omega
theorem m_sweep {B : Bas} {P : Nat → Nat} {b : Nat} {kk ks ky kat kg kwho kc : Nat → Int32} {p : Nat → Bool} (h : basOk B) (hP : stC B P) (hr : rfB B kk ks ky) (hp : chP B P kat) (hg : chG B kg) (ho : rfO B P kwho) (hb : b < bn B) (k5 : bK B b = 5) (hk : ∀ c, c < bn B → kc c = bI (p c)) : ∃ kc₉, f_BargeBasinModel_sweep (nI b) kat ks ky kg kwho kc = some kc₉ ∧ ∀ c, c < bn B → kc₉ c = bI (p c || anyF fun f => fbA B P c f && wyA B P b f) := by
  obtain ⟨o1, o2, o3, o4, o5, o6, o7, o8⟩ := way_geo h hP hb k5
  have b12 := (basOk_wh h hb).1
  have p64 := ins_64 h hP.1.1 hb
  have g64 := h.2.2.2.2.2.2 b hb k5
  have y2 : bY B b = 0 ∨ bY B b = 1 := by omega
  have st1 : 1 ≤ stp (bY B b) := by rcases y2 with e | e <;> rw [e] <;> decide
  have st8 : stp (bY B b) ≤ 8 := by rcases y2 with e | e <;> rw [e] <;> decide
  have hi : loA B P b + stp (bY B b) * (qqA B P b + bS B b - 1) < 64 := by
    rcases y2 with e | e
    · have := o3.1 e; rw [e, show stp 0 = 1 from rfl]; omega
    · have := o3.2 e; rw [e, show stp 1 = 8 from rfl]; omega
  have q7 : qqA B P b ≤ 7 := by
    rcases y2 with e | e
    · have := o3.1 e; omega
    · have := o3.2 e; omega
  obtain ⟨kc₉, e1, e2⟩ := m_swL (P := P) (J := qqA B P b + bS B b - 1) h ho st1 st8 hi (qqA B P b + bS B b) 0 jN (upd kc b 1) (fun c => p c || decide (c = b)) (by omega) (by show qqA B P b + bS B b < 2000000; omega) (fun c hc => by
    by_cases z : c = b
    · subst z; rw [pk_us]; simp [bI]
    · rw [pk_un z, hk c hc]; simp [z])
  refine ⟨kc₉, ?_, fun c hc => ?_⟩
  · have mm := mmI p64 g64
    have s1 : nI (bS B b) - 1 = nI (bS B b - 1) := by
      have : nI (bS B b) = nI (bS B b - 1) + 1 := by rw [nI_1]; congr 1; omega
      rw [this, Int32.add_sub_cancel]
    have J : f_BargeBasinModel_sweep_J22 (nI b) (nI (stp (bY B b))) kat ks kg kwho (upd kc b 1) = some kc₉ := by
      unfold f_BargeBasinModel_sweep_J22
      simp only [ev_grdN _ b12 (show 12 < 2 ^ 31 by decide), cl_nI b12, hp b hb, hg b hb k5, mm.1, mm.2, ev_bnd, (hr b hb).2.1, s1]
      rw [pk_mul, nI_add, o2, Nat.add_assoc, ← Nat.mul_add, show qqA B P b + (bS B b - 1) = qqA B P b + bS B b - 1 by omega]
      rw [ev_b _ (show f_BargeBasinModel_sweep_L70 (nI (stp (bY B b))) (nI (loA B P b + stp (bY B b) * (qqA B P b + bS B b - 1))) kwho jN (nI (min (P b) (bG B b))) (upd kc b 1) = some kc₉ from e1)]
    unfold f_BargeBasinModel_sweep
    rw [ev_grdN _ b12 (by decide), ev_grdN _ b12 (by decide), cl_nI b12, nar1, (hr b hb).2.2]
    rcases y2 with e | e
    · rw [e] at J ⊢
      rw [if_pos (show nI 0 = 0 from rfl)]; exact J
    · rw [e] at J ⊢
      rw [if_neg (show ¬ nI 1 = 0 by decide)]; exact J
  · rw [e2 c hc, way_any h hP hb hc k5]
    by_cases z : c = b
    · subst z; rw [own_way h hP hb k5]; simp
    · simp [z]
theorem m_lowL29 {n0 : Nat} (hn : n0 ≤ 12) : ∀ (r b n : Nat) (kc : Nat → Int32), b + r = n0 → r < n → (∀ c, c < b → kc c = 0) → ∃ kc₉, f_BargeBasinModel_low_L29 (nI n0) n (nI b) kc = some kc₉ ∧ ∀ c, c < n0 → kc₉ c = 0 := by
  intro r
  induction r with
  | zero =>
    intro b n kc h1 h2 h3
    obtain ⟨n, rfl⟩ : ∃ z, n = z + 1 := ⟨n - 1, by omega⟩
    have e : b = n0 := by omega
    subst e
    exact ⟨kc, by rw [f_BargeBasinModel_low_L29, if_pos (nI_le (Nat.le_refl _) (by omega))], h3⟩
  | succ r ih =>
    intro b n kc h1 h2 h3
    obtain ⟨n, rfl⟩ : ∃ z, n = z + 1 := ⟨n - 1, by omega⟩
    rw [f_BargeBasinModel_low_L29, if_neg (nI_ge (show b < n0 by omega) (by omega)), ev_grdN _ (show b < 12 by omega) (by decide), cl_nI (show b < 12 by omega), ev_bnd, nI_1, show vp_nar .boolean (0 : Int32) = 0 from nar_bI false]
    exact ih (b + 1) n _ (by omega) (by omega) (fun c hc => by
      by_cases z : c = b
      · rw [z, pk_us]
      · rw [pk_un z]; exact h3 c (by omega))
def lwN (B : Bas) (P : Nat → Nat) (n c : Nat) : Bool := (List.range n).any fun b => awA B P b && anyF fun f => fbA B P c f && wyA B P b f
theorem lw_eq {B : Bas} {P : Nat → Nat} {c : Nat} : lwN B P (bn B) c = lwA B P c := by
  unfold lwN lwA ovA
  rw [Bool.eq_iff_iff, anyF_t, List.any_eq_true]
  constructor
  · rintro ⟨b, b1, b2⟩
    rw [Bool.and_eq_true, anyF_t] at b2
    obtain ⟨b3, f, f1, f2⟩ := b2
    rw [Bool.and_eq_true] at f2
    refine ⟨f, f1, ?_⟩
    rw [f2.1, Bool.true_and, List.any_eq_true]
    exact ⟨b, b1, by rw [b3, f2.2]; rfl⟩
  · rintro ⟨f, f1, f2⟩
    rw [Bool.and_eq_true, List.any_eq_true] at f2
    obtain ⟨f3, b, b1, b2⟩ := f2
    rw [Bool.and_eq_true] at b2
    refine ⟨b, b1, ?_⟩
    rw [b2.1, Bool.true_and, anyF_t]
    exact ⟨f, f1, by rw [f3, b2.2]; rfl⟩
theorem m_lowL52 {B : Bas} {P : Nat → Nat} {kk ks ky kat kg kwho : Nat → Int32} (h : basOk B) (hP : stC B P) (hr : rfB B kk ks ky) (hp : chP B P kat) (hg : chG B kg) (ho : rfO B P kwho) : ∀ (r b n : Nat) (kc : Nat → Int32), b + r = bn B → r < n → (∀ c, c < bn B → kc c = bI (lwN B P b c)) → ∃ kc₉, f_BargeBasinModel_low_L52 (nI (bn B)) kk kat ks ky kg kwho n (nI b) kc = some kc₉ ∧ ∀ c, c < bn B → kc₉ c = bI (lwA B P c) := by
  have n12 := h.2.2.2.2.1
  intro r
  induction r with
  | zero =>
    intro b n kc h1 h2 h3
    obtain ⟨n, rfl⟩ : ∃ z, n = z + 1 := ⟨n - 1, by omega⟩
    have e : b = bn B := by omega
    subst e
    exact ⟨kc, by rw [f_BargeBasinModel_low_L52, if_pos (nI_le (Nat.le_refl _) (by omega))], fun c hc => by rw [h3 c hc, lw_eq]⟩
  | succ r ih =>
    intro b n kc h1 h2 h3
    obtain ⟨n, rfl⟩ : ∃ z, n = z + 1 := ⟨n - 1, by omega⟩
    have hb : b < bn B := by omega
    obtain ⟨a1, a2, -⟩ := basOk_wh h hb
    have p64 := ins_64 h hP.1.1 hb
    have nx : ∀ c, lwN B P (b + 1) c = (lwN B P b c || (awA B P b && anyF fun f => fbA B P c f && wyA B P b f)) := fun c => any_s
    have c5 : (nI (bK B b) = 5) = (bK B b = 5) := nI_eqL (j := 5) (by omega) (by decide)
    rw [f_BargeBasinModel_low_L52, if_neg (nI_ge hb (by omega))]
    simp only [ev_grdN _ a1 (show 12 < 2 ^ 31 by decide), cl_nI a1, (hr b hb).1, c5, hp b hb, ev_bnd, nI_1]
    by_cases k5 : bK B b = 5
    · have g64 := h.2.2.2.2.2.2 b hb k5
      have ce : (nI (P b) = nI (bG B b)) = (P b = bG B b) := nI_eqL (by omega) (by omega)
      rw [if_pos k5, hg b hb k5]
      simp only [ce]
      by_cases e : P b = bG B b
      · rw [if_pos e]
        exact ih (b + 1) n kc (by omega) (by omega) (fun c hc => by rw [h3 c hc, nx, show awA B P b = false by unfold awA; simp [e]]; simp)
      · obtain ⟨kc₉, e1, e2⟩ := m_sweep h hP hr hp hg ho hb k5 h3
        rw [if_neg e, ev_b _ e1]
        exact ih (b + 1) n kc₉ (by omega) (by omega) (fun c hc => by rw [e2 c hc, nx, show awA B P b = true by unfold awA; simp [k5, e]]; simp)
    · rw [if_neg k5]
      exact ih (b + 1) n kc (by omega) (by omega) (fun c hc => by rw [h3 c hc, nx, show awA B P b = false by unfold awA; simp [k5]]; simp)
theorem m_lowL100 {B : Bas} {P : Nat → Nat} {kc : Nat → Int32} (h : basOk B) (hk : ∀ c, c < bn B → kc c = bI (lwA B P c)) : ∀ (r b n : Nat), b + r = bn B → r < n → f_BargeBasinModel_low_L100 (nI (bn B)) kc n (nI (nmF (lwA B P) b)) (nI b) = some (nI (nmF (lwA B P) (bn B))) := by
  have n12 := h.2.2.2.2.1
  intro r
  induction r with
  | zero =>
    intro b n h1 h2
    obtain ⟨n, rfl⟩ : ∃ z, n = z + 1 := ⟨n - 1, by omega⟩
    have e : b = bn B := by omega
    subst e
    rw [f_BargeBasinModel_low_L100, if_pos (nI_le (Nat.le_refl _) (by omega))]
  | succ r ih =>
    intro b n h1 h2
    obtain ⟨n, rfl⟩ : ∃ z, n = z + 1 := ⟨n - 1, by omega⟩
    have hb : b < bn B := by omega
    have i := ih (b + 1) n (by omega) (by omega)
    rw [f_BargeBasinModel_low_L100, if_neg (nI_ge hb (by omega)), ev_grdN _ (show b < 12 by omega) (by decide), cl_nI (show b < 12 by omega), hk b hb]
    simp only [ev_bnd, nI_1]
    rw [← i]
    show _ = f_BargeBasinModel_low_L100 (nI (bn B)) kc n (nI (nmF (lwA B P) b + (if lwA B P b then 1 else 0))) (nI (b + 1))
    cases lwA B P b with
    | false =>
      rw [if_pos (show bI false = 0 by decide)]
      show f_BargeBasinModel_low_L100 (nI (bn B)) kc n (nI _ + nI 0) _ = _
      rw [nI_add]; rfl
    | true => rw [if_neg (show ¬ bI true = 0 by decide)]; rfl
theorem m_low {B : Bas} {P : Nat → Nat} {khas kw kh kn : Int32} {kwl kk kat ks ky kg : Nat → Int32} (h : basOk B) (hP : stC B P) (hr : rfX B P khas kw kh kn kwl kk kat ks ky kg) (st th : Int32) (kwho khe kc : Nat → Int32) : ∃ (kwho₉ khe₉ kc₉ : Nat → Int32), f_BargeBasinModel_low st th khas kn kk kat ks ky kg kwho khe kc = some (nI (nmF (lwA B P) (bn B)), 0, 0, kwho₉, khe₉, kc₉) := by
  obtain ⟨r1, r2, r3, r4, r5, r6, r7, r8⟩ := hr
  subst r1; subst r4
  have n12 := h.2.2.2.2.1
  obtain ⟨kw1, kh1, e1, o1, p1⟩ := m_layAllB h hP.1.1 r6 r7 kwho khe
  obtain ⟨k1, e2, o2⟩ := m_lowL29 n12 (bn B) 0 jN kc (by omega) (by show bn B < 2000000; omega) (fun c hc => by omega)
  obtain ⟨k2, e3, o3⟩ := m_lowL52 h hP r6 r7 r8 o1 (bn B) 0 jN k1 (by omega) (by show bn B < 2000000; omega) (fun c hc => by rw [o2 c hc]; rfl)
  have e4 := m_lowL100 h o3 (bn B) 0 jN (by omega) (by show bn B < 2000000; omega)
  refine ⟨kw1, kh1, k2, ?_⟩
  unfold f_BargeBasinModel_low
  rw [if_neg (show ¬ (1 : Int32) = 0 by decide), ev_b _ e1, un2_ap, ev_b (x := f_BargeBasinModel_low_L29 (nI (bn B)) jN 0 kc) _ e2, ev_b (x := f_BargeBasinModel_low_L52 (nI (bn B)) kk kat ks ky kg kw1 jN 0 k1) _ e3, ev_b (x := f_BargeBasinModel_low_L100 (nI (bn B)) k2 jN 0 0) _ e4]
theorem eq_low {B : Bas} {P : Nat → Nat} {cw chh cn : Int32} {cwl ct : Int64} {ck cp cl cg ca cwd chg : Nat → Int32} {cs : Nat → Int64} {khas kw kh kn : Int32} {kwl kk kat ks ky kg : Nat → Int32} (h : basOk B) (hP : stC B P) (hc : chX B P cw chh cn cwl ct ck cp cl cg ca cwd chg cs) (hr : rfX B P khas kw kh kn kwl kk kat ks ky kg) (st st2 th : Int32) (kwho khe kc : Nat → Int32) :
    ∃ (ans st₉ : Int32) (kwho₉ khe₉ kc₉ : Nat → Int32), f_BargeBasin_low st cw cn ck cp cg ca cs = some (ans, st₉) ∧ f_BargeBasinModel_low st2 th khas kn kk kat ks ky kg kwho khe kc = some (ans, st₉, 0, kwho₉, khe₉, kc₉) := by
  obtain ⟨a, b, c, e⟩ := m_low h hP hr st2 th kwho khe kc
  exact ⟨_, _, a, b, c, s_low h hP hc st, e⟩
end
section
/-! A basin mirrored (ov) or turned by a quarter. -/
def tpl (ov : Bool) (w h W H p : Nat) : Nat := if ov = true then p / 8 * 8 + (w - p % 8 - W) else 8 * (p % 8) + (h - p / 8 - H)
def pre (ov : Bool) (w h f : Nat) : Nat := if ov = true then f / 8 * 8 + (w - 1 - f % 8) else f / 8 + 8 * (h - 1 - f % 8)
def nwT (ov : Bool) (w h : Nat) : Nat := if ov = true then w else h
def tuB (ov : Bool) (B : Bas) : Bas := (nwT ov (bw B) (bh B), nwT ov (bh B) (bw B), bn B, bK B, bS B, fun b => if ov = true then bY B b else if bK B b = 1 ∨ bK B b = 5 then 1 - bY B b else bY B b, fun b => tpl ov (bw B) (bh B) (xW B b) (xH B b) (bG B b), fun f => decide (f % 8 < nwT ov (bw B) (bh B)) && bwl B (pre ov (bw B) (bh B) f))
def tuP (ov : Bool) (B : Bas) (P : Nat → Nat) : Nat → Nat := fun b => if b < bn B then tpl ov (bw B) (bh B) (xW B b) (xH B b) (P b) else 0
theorem tu_x {ov : Bool} {B : Bas} {b : Nat} (h : basOk B) (hb : b < bn B) : xW (tuB ov B) b = nwT ov (xW B b) (xH B b) ∧ xH (tuB ov B) b = nwT ov (xH B b) (xW B b) := by
  obtain ⟨l1, l2, l3⟩ := h.2.2.2.2.2.1 b hb
  cases ov with
  | true => exact ⟨rfl, rfl⟩
  | false =>
    show bW (bK B b) (bS B b) (if bK B b = 1 ∨ bK B b = 5 then 1 - bY B b else bY B b) = bH (bK B b) (bS B b) (bY B b) ∧ bH (bK B b) (bS B b) (if bK B b = 1 ∨ bK B b = 5 then 1 - bY B b else bY B b) = bW (bK B b) (bS B b) (bY B b)
    have y2 : bY B b = 0 ∨ bY B b = 1 := by omega
    unfold bW bH
    by_cases k3 : bK B b = 3
    · rw [if_pos k3, if_pos k3, if_pos k3, if_pos k3]; exact ⟨rfl, rfl⟩
    · rw [if_neg k3, if_neg k3, if_neg k3, if_neg k3]
      by_cases k : bK B b = 1 ∨ bK B b = 5
      · simp only [if_pos k]
        rcases y2 with e | e <;> rw [e] <;> exact ⟨rfl, rfl⟩
      · simp only [if_neg k]; exact ⟨trivial, trivial⟩
theorem tpl_xy {ov : Bool} {w h W H p : Nat} (hw : p % 8 + W ≤ w) (hh : p / 8 + H ≤ h) (w8 : w ≤ 8) (h8 : h ≤ 8) (W1 : 1 ≤ W) (H1 : 1 ≤ H) : tpl ov w h W H p % 8 = (if ov = true then w - p % 8 - W else h - p / 8 - H) ∧ tpl ov w h W H p / 8 = (if ov = true then p / 8 else p % 8) ∧ tpl ov w h W H p < 64 := by
  unfold tpl
  cases ov with
  | true => simp only [if_true]; omega
  | false => simp only [Bool.false_eq_true, if_false]; omega
theorem pre_64 {ov : Bool} {w h f : Nat} (hf : f < 64) (w8 : w ≤ 8) (h8 : h ≤ 8) (w1 : 1 ≤ w) (h1 : 1 ≤ h) : pre ov w h f < 64 := by
  unfold pre
  cases ov with
  | true => simp only [if_true]; omega
  | false => simp only [Bool.false_eq_true, if_false]; omega
theorem tu_fb {ov : Bool} {B : Bas} {P : Nat → Nat} {b f : Nat} (h : basOk B) (hi : insA B P) (hb : b < bn B) (hf : f < 64) : fbA (tuB ov B) (tuP ov B P) b f = (decide (f % 8 < nwT ov (bw B) (bh B)) && fbA B P b (pre ov (bw B) (bh B) f)) := by
  have w8 := h.2.1
  have h8 := h.2.2.2.1
  have w3 := h.1
  have h3 := h.2.2.1
  obtain ⟨i1, i2⟩ := hi b hb
  obtain ⟨a1, a2, a3, a4, a5, a6, a7, a8⟩ := basOk_wh h hb
  obtain ⟨t1, t2, t3⟩ := tpl_xy (ov := ov) i1 i2 w8 h8 a4 a6
  unfold fbA
  rw [(tu_x h hb).1, (tu_x h hb).2, show tuP ov B P b = tpl ov (bw B) (bh B) (xW B b) (xH B b) (P b) from if_pos hb, t1, t2]
  unfold inB pre nwT
  rw [Bool.eq_iff_iff]
  cases ov with
  | true => simp only [if_true, Bool.and_eq_true, decide_eq_true_eq]; omega
  | false => simp only [Bool.false_eq_true, if_false, Bool.and_eq_true, decide_eq_true_eq]; omega
theorem tu_bas {ov : Bool} {B : Bas} {P : Nat → Nat} (h : basOk B) (hP : stC B P) : basOk (tuB ov B) := by
  obtain ⟨h1, h2, h3, h4, h5, h6, h7⟩ := h
  refine ⟨?_, ?_, ?_, ?_, h5, fun b hb => ?_, fun b hb e => ?_⟩
  · show 3 ≤ nwT ov (bw B) (bh B); unfold nwT; split <;> omega
  · show nwT ov (bw B) (bh B) ≤ 8; unfold nwT; split <;> omega
  · show 3 ≤ nwT ov (bh B) (bw B); unfold nwT; split <;> omega
  · show nwT ov (bh B) (bw B) ≤ 8; unfold nwT; split <;> omega
  · obtain ⟨l1, l2, l3⟩ := h6 b hb
    refine ⟨l1, ?_, ?_⟩
    · show (if ov = true then bY B b else if bK B b = 1 ∨ bK B b = 5 then 1 - bY B b else bY B b) < 2
      split
      · exact l2
      · split <;> omega
    · show (if ov = true then bY B b else if bK B b = 1 ∨ bK B b = 5 then 1 - bY B b else bY B b) = 1 → bK B b = 1 ∨ bK B b = 5
      intro q
      split at q
      · exact l3 q
      · split at q
        · assumption
        · exact l3 q
  · obtain ⟨g1, g2, g3, g4⟩ := hP.2.2 b hb e
    obtain ⟨a1, a2, a3, a4, a5, a6, a7, a8⟩ := basOk_wh ⟨h1, h2, h3, h4, h5, h6, h7⟩ hb
    exact (tpl_xy (ov := ov) g3 g4 h2 h4 a4 a6).2.2
theorem tu_st {ov : Bool} {B : Bas} {P : Nat → Nat} (h : basOk B) (hP : stC B P) : stC (tuB ov B) (tuP ov B P) := by
  have w8 := h.2.1
  have h8 := h.2.2.2.1
  have w3 := h.1
  have h3 := h.2.2.1
  have p64 : ∀ f, f < 64 → pre ov (bw B) (bh B) f < 64 := fun f hf => pre_64 hf w8 h8 (by omega) (by omega)
  refine ⟨⟨fun b hb => ?_, fun b c f hb hc hf e1 e2 => ?_, fun b f hb hf e => ?_⟩, fun b hb => if_neg (show ¬ b < bn B from Nat.not_lt.mpr hb), fun b hb e => ?_⟩
  · have hb₉ : b < bn B := hb
    obtain ⟨i1, i2⟩ := hP.1.1 b hb₉
    obtain ⟨a1, a2, a3, a4, a5, a6, a7, a8⟩ := basOk_wh h hb₉
    obtain ⟨t1, t2, t3⟩ := tpl_xy (ov := ov) i1 i2 w8 h8 a4 a6
    rw [(tu_x h hb₉).1, (tu_x h hb₉).2, show tuP ov B P b = tpl ov (bw B) (bh B) (xW B b) (xH B b) (P b) from if_pos hb₉, t1, t2]
    show _ ≤ nwT ov (bw B) (bh B) ∧ _ ≤ nwT ov (bh B) (bw B)
    unfold nwT
    cases ov with
    | true => simp only [if_true]; omega
    | false => simp only [Bool.false_eq_true, if_false]; omega
  · rw [tu_fb h hP.1.1 hb hf, Bool.and_eq_true] at e1
    rw [tu_fb h hP.1.1 hc hf, Bool.and_eq_true] at e2
    exact hP.1.2.1 b c _ hb hc (p64 f hf) e1.2 e2.2
  · rw [tu_fb h hP.1.1 hb hf, Bool.and_eq_true] at e
    show (decide (f % 8 < nwT ov (bw B) (bh B)) && bwl B (pre ov (bw B) (bh B) f)) = false
    rw [hP.1.2.2 b _ hb (p64 f hf) e.2, Bool.and_false]
  · have hb₉ : b < bn B := hb
    have e₉ : bK B b = 5 := e
    obtain ⟨i1, i2⟩ := hP.1.1 b hb₉
    obtain ⟨g1, g2, g3, g4⟩ := hP.2.2 b hb₉ e₉
    obtain ⟨a1, a2, a3, a4, a5, a6, a7, a8⟩ := basOk_wh h hb₉
    obtain ⟨t1, t2, t3⟩ := tpl_xy (ov := ov) i1 i2 w8 h8 a4 a6
    obtain ⟨u1, u2, u3⟩ := tpl_xy (ov := ov) g3 g4 w8 h8 a4 a6
    rw [(tu_x h hb₉).1, (tu_x h hb₉).2, show tuP ov B P b = tpl ov (bw B) (bh B) (xW B b) (xH B b) (P b) from if_pos hb₉, show bG (tuB ov B) b = tpl ov (bw B) (bh B) (xW B b) (xH B b) (bG B b) from rfl, t1, t2, u1, u2, show bY (tuB ov B) b = (if ov = true then bY B b else if bK B b = 1 ∨ bK B b = 5 then 1 - bY B b else bY B b) from rfl, if_pos (Or.inr e₉)]
    show _ ∧ _ ∧ _ ≤ nwT ov (bw B) (bh B) ∧ _ ≤ nwT ov (bh B) (bw B)
    unfold nwT
    cases ov with
    | true => simp only [if_true]; omega
    | false => simp only [Bool.false_eq_true, if_false]; omega
/-- walls of the image are inside it -/
theorem tu_out {ov : Bool} {B : Bas} (h : basOk B) (ho : ∀ f, f < 64 → (bw B ≤ f % 8 ∨ bh B ≤ f / 8) → bwl B f = false) : ∀ f, f < 64 → (bw (tuB ov B) ≤ f % 8 ∨ bh (tuB ov B) ≤ f / 8) → bwl (tuB ov B) f = false := by
  have w8 := h.2.1
  have h8 := h.2.2.2.1
  have w3 := h.1
  have h3 := h.2.2.1
  intro f hf q
  have q₉ : nwT ov (bw B) (bh B) ≤ f % 8 ∨ nwT ov (bh B) (bw B) ≤ f / 8 := q
  show (decide (f % 8 < nwT ov (bw B) (bh B)) && bwl B (pre ov (bw B) (bh B) f)) = false
  by_cases z : f % 8 < nwT ov (bw B) (bh B)
  · rw [ho _ (pre_64 hf w8 h8 (by omega) (by omega)) (by
      unfold nwT at q₉ z
      unfold pre
      cases ov with
      | true => simp only [if_true] at *; omega
      | false => simp only [Bool.false_eq_true, if_false] at *; omega), Bool.and_false]
  · rw [decide_eq_false z, Bool.false_and]
end
section
/-! mirror and quarter of the class. -/
theorem nI_subE {a b : Nat} (h : b ≤ a) : nI a - nI b = nI (a - b) := by
  have e : nI a = nI (a - b) + nI b := by rw [nI_add]; congr 1; omega
  rw [e, Int32.add_sub_cancel]
theorem s_mirrored {w h W H p : Nat} (hp : p < 64) (hw : p % 8 + W ≤ w) : f_Chart_mirrored (nI p) (nI W) (nI w) = some (nI (tpl true w h W H p)) := by
  unfold f_Chart_mirrored
  rw [ev_bnd, and7 hp, nI_subE (Nat.mod_le _ _), nI_subE (show p % 8 ≤ w by omega), nI_subE (show W ≤ w - p % 8 by omega), nI_add]
  unfold tpl
  rw [if_pos rfl, show p - p % 8 = p / 8 * 8 by omega]
theorem s_turned {w h W H p : Nat} (hp : p < 64) (hh : p / 8 + H ≤ h) : f_Chart_turned (nI p) (nI H) (nI h) = some (nI (tpl false w h W H p)) := by
  unfold f_Chart_turned
  rw [ev_bnd, ev_bnd, and7 hp, shr3 p hp, i8, nI_subE (show p / 8 ≤ h by omega), nI_subE (show H ≤ h - p / 8 by omega), nI_add]
  rfl
theorem s_form {b k s y : Nat} {ck cl ca cwd chg : Nat → Int32} {cs : Nat → Int64} (hb : b < 12) (hg : bgOk k s y) (h1 : ck b = nI k) (h2 : cl b = nI s) (h3 : ca b = bI (decide (y = 1))) : f_Chart_form (nI b) ck cl ca cwd chg cs = some (upd cwd b (nI (bW k s y)), upd chg b (nI (bH k s y)), vp_updL cs b (shp (bW k s y) (bH k s y))) := by
  obtain ⟨g1, g2, g3, g4, g5, g6, g7⟩ := bgOk_wh hg
  obtain ⟨e1, e2⟩ := bWH hg
  have a1 := s_wideOf (n := s) (decide (y = 1))
  have a2 := s_highOf (n := s) g1 (decide (y = 1))
  rw [e1] at a1
  rw [e2] at a2
  unfold f_Chart_form
  simp only [ev_grdN _ hb (show 12 < 2 ^ 31 by decide), cl_nI hb, pk_us, h1, h2, h3, a1, a2, ev_b _ rfl, s_shapeOf (show bH k s y < 100 by omega)]
theorem bit1 {x : Int64} {k : Nat} (hk : k < 64) : (jlushr x (nI k) &&& 1 = 0) = (tb x k = false) := by
  rw [and0]
  have a : anyF (fun f => tb (jlushr x (nI k)) f && tb 1 f) = tb x k := by
    rw [Bool.eq_iff_iff, anyF_t]
    constructor
    · rintro ⟨f, hf, q⟩
      rw [Bool.and_eq_true, tb_shr hk, tb_1, decide_eq_true_eq] at q
      rw [q.2, Nat.add_zero] at q
      exact q.1
    · intro q
      exact ⟨0, by decide, by rw [tb_shr hk, tb_1, Nat.add_zero, q]; rfl⟩
  rw [a]
/-- the image of the walls below k -/
def wlK (ov : Bool) (B : Bas) (k f : Nat) : Bool := decide (f % 8 < nwT ov (bw B) (bh B)) && (bwl B (pre ov (bw B) (bh B) f) && decide (pre ov (bw B) (bh B) f < k))
theorem wlK_64 {ov : Bool} {B : Bas} (h : basOk B) {f : Nat} (hf : f < 64) : wlK ov B 64 f = bwl (tuB ov B) f := by
  show wlK ov B 64 f = (decide (f % 8 < nwT ov (bw B) (bh B)) && bwl B (pre ov (bw B) (bh B) f))
  unfold wlK
  rw [decide_eq_true (pre_64 (ov := ov) hf h.2.1 h.2.2.2.1 (by have := h.1; omega) (by have := h.2.2.1; omega)), Bool.and_true]
theorem wlK_0 {ov : Bool} {B : Bas} {f : Nat} : wlK ov B 0 f = false := by unfold wlK; simp
theorem wlK_n {ov : Bool} {B : Bas} {k f : Nat} (hk : bwl B k = false) : wlK ov B (k + 1) f = wlK ov B k f := by
  unfold wlK
  congr 1
  by_cases z : pre ov (bw B) (bh B) f = k
  · rw [z, hk, Bool.false_and, Bool.false_and]
  · congr 1
    rw [decide_eq_decide]; omega
theorem wlK_s {ov : Bool} {B : Bas} {k f : Nat} (h : basOk B) (hk : bwl B k = true) (hi : k % 8 < bw B ∧ k / 8 < bh B) (hf : f < 64) : wlK ov B (k + 1) f = (wlK ov B k f || decide (f = tpl ov (bw B) (bh B) 1 1 k)) := by
  have w8 := h.2.1
  have h8 := h.2.2.2.1
  have e : decide (f = tpl ov (bw B) (bh B) 1 1 k) = (decide (f % 8 < nwT ov (bw B) (bh B)) && decide (pre ov (bw B) (bh B) f = k)) := by
    rw [Bool.eq_iff_iff, Bool.and_eq_true, decide_eq_true_eq, decide_eq_true_eq, decide_eq_true_eq]
    unfold tpl nwT pre
    cases ov with
    | true => simp only [if_true]; omega
    | false =>
      simp only [Bool.false_eq_true, if_false]
      constructor
      · intro q
        have q1 : f % 8 = bh B - k / 8 - 1 := by omega
        have q2 : f / 8 = k % 8 := by omega
        rw [q1, q2]
        omega
      · rintro ⟨q1, q2⟩
        have q3 : k % 8 = f / 8 := by omega
        have q4 : k / 8 = bh B - 1 - f % 8 := by omega
        rw [q3, q4]
        omega
  rw [e]
  unfold wlK
  rw [← Bool.and_or_distrib_left]
  congr 1
  by_cases z : pre ov (bw B) (bh B) f = k
  · rw [z, hk]; simp
  · rw [decide_eq_false z, Bool.or_false]
    congr 1
    rw [decide_eq_decide]; omega
theorem s_mirW {B : Bas} {cwl : Int64} (h : basOk B) (hw : chW B cwl) (ho : ∀ f, f < 64 → (bw B ≤ f % 8 ∨ bh B ≤ f / 8) → bwl B f = false) : ∀ (r k n : Nat) (v : Int64), k + r = 64 → r < n → (∀ f, f < 64 → tb v f = wlK true B k f) → ∃ V, f_Chart_mirror_L12 cwl (nI (bw B)) n (nI k) v = some V ∧ chW (tuB true B) V := by
  have w8 := h.2.1
  intro r
  induction r with
  | zero =>
    intro k n v h1 h2 h3
    obtain ⟨n, rfl⟩ : ∃ z, n = z + 1 := ⟨n - 1, by omega⟩
    have e : k = 64 := by omega
    subst e
    exact ⟨v, by rw [f_Chart_mirror_L12, if_pos (show (64 : Int32) ≤ nI 64 by decide)], fun f hf => by rw [h3 f hf, wlK_64 h hf]⟩
  | succ r ih =>
    intro k n v h1 h2 h3
    obtain ⟨n, rfl⟩ : ∃ z, n = z + 1 := ⟨n - 1, by omega⟩
    rw [f_Chart_mirror_L12, if_neg (show ¬ (64 : Int32) ≤ nI k from nI_ge (b := 64) (by omega) (by decide))]
    simp only [cmp0, bit1 (show k < 64 by omega), hw k (by omega), ev_bnd, nI_1]
    cases e : bwl B k with
    | false =>
      rw [if_pos rfl]
      exact ih (k + 1) n v (by omega) (by omega) (fun f hf => by rw [h3 f hf, wlK_n e])
    | true =>
      have hi : k % 8 < bw B ∧ k / 8 < bh B := by
        by_cases q : bw B ≤ k % 8 ∨ bh B ≤ k / 8
        · rw [ho k (by omega) q] at e; cases e
        · omega
      rw [if_neg (by decide), ev_b (x := f_Chart_mirrored (nI k) 1 (nI (bw B))) _ (s_mirrored (h := bh B) (H := 1) (W := 1) (show k < 64 by omega) (show k % 8 + 1 ≤ bw B by omega))]
      have t := (tpl_xy (ov := true) (W := 1) (H := 1) (show k % 8 + 1 ≤ bw B by omega) (show k / 8 + 1 ≤ bh B by omega) w8 h.2.2.2.1 (by decide) (by decide)).2.2
      exact ih (k + 1) n _ (by omega) (by omega) (fun f hf => by rw [tb_or, h3 f hf, tb_one t, wlK_s h e hi hf])
theorem s_quaW {B : Bas} {cwl : Int64} (h : basOk B) (hw : chW B cwl) (ho : ∀ f, f < 64 → (bw B ≤ f % 8 ∨ bh B ≤ f / 8) → bwl B f = false) : ∀ (r k n : Nat) (v : Int64), k + r = 64 → r < n → (∀ f, f < 64 → tb v f = wlK false B k f) → ∃ V, f_Chart_quarter_L12 cwl (nI (bh B)) n (nI k) v = some V ∧ chW (tuB false B) V := by
  have w8 := h.2.1
  intro r
  induction r with
  | zero =>
    intro k n v h1 h2 h3
    obtain ⟨n, rfl⟩ : ∃ z, n = z + 1 := ⟨n - 1, by omega⟩
    have e : k = 64 := by omega
    subst e
    exact ⟨v, by rw [f_Chart_quarter_L12, if_pos (show (64 : Int32) ≤ nI 64 by decide)], fun f hf => by rw [h3 f hf, wlK_64 h hf]⟩
  | succ r ih =>
    intro k n v h1 h2 h3
    obtain ⟨n, rfl⟩ : ∃ z, n = z + 1 := ⟨n - 1, by omega⟩
    rw [f_Chart_quarter_L12, if_neg (show ¬ (64 : Int32) ≤ nI k from nI_ge (b := 64) (by omega) (by decide))]
    simp only [cmp0, bit1 (show k < 64 by omega), hw k (by omega), ev_bnd, nI_1]
    cases e : bwl B k with
    | false =>
      rw [if_pos rfl]
      exact ih (k + 1) n v (by omega) (by omega) (fun f hf => by rw [h3 f hf, wlK_n e])
    | true =>
      have hi : k % 8 < bw B ∧ k / 8 < bh B := by
        by_cases q : bw B ≤ k % 8 ∨ bh B ≤ k / 8
        · rw [ho k (by omega) q] at e; cases e
        · omega
      rw [if_neg (by decide), ev_b (x := f_Chart_turned (nI k) 1 (nI (bh B))) _ (s_turned (w := bw B) (W := 1) (H := 1) (show k < 64 by omega) (show k / 8 + 1 ≤ bh B by omega))]
      have t := (tpl_xy (ov := false) (W := 1) (H := 1) (show k % 8 + 1 ≤ bw B by omega) (show k / 8 + 1 ≤ bh B by omega) w8 h.2.2.2.1 (by decide) (by decide)).2.2
      exact ih (k + 1) n _ (by omega) (by omega) (fun f hf => by rw [tb_or, h3 f hf, tb_one t, wlK_s h e hi hf])
theorem s_mirL {B : Bas} {P : Nat → Nat} {kk ka kw kh : Nat → Int32} {ks : Nat → Int64} (h : basOk B) (hP : stC B P) (hc : chB B kk ka kw kh ks) : ∀ (r b n : Nat) (t : Int64) (p g : Nat → Int32), b + r = bn B → r < n → (∀ c, c < bn B → p c = nI (if c < b then tuP true B P c else P c)) → (∀ c, c < bn B → bK B c = 5 → g c = nI (if c < b then bG (tuB true B) c else bG B c)) → (∀ f, f < 64 → tb t f = (List.range b).any fun c => fbA (tuB true B) (tuP true B P) c f) →
    ∃ t₉ p₉ g₉, f_Chart_mirror_L58 (nI (bw B)) (nI (bn B)) kw ks n (nI b) t p g = some (t₉, p₉, g₉) ∧ chT (tuB true B) (tuP true B P) t₉ ∧ chP (tuB true B) (tuP true B P) p₉ ∧ chG (tuB true B) g₉ := by
  have n12 := h.2.2.2.2.1
  have w8 := h.2.1
  have h8 := h.2.2.2.1
  intro r
  induction r with
  | zero =>
    intro b n t p g h1 h2 h3 h4 h5
    obtain ⟨n, rfl⟩ : ∃ z, n = z + 1 := ⟨n - 1, by omega⟩
    have e : b = bn B := by omega
    subst e
    exact ⟨t, p, g, by rw [f_Chart_mirror_L58, if_pos (nI_le (Nat.le_refl _) (by omega))], h5, fun c hc₉ => by rw [h3 c hc₉, if_pos (show c < bn B from hc₉)], fun c hc₉ e5 => by rw [h4 c hc₉ e5, if_pos (show c < bn B from hc₉)]⟩
  | succ r ih =>
    intro b n t p g h1 h2 h3 h4 h5
    obtain ⟨n, rfl⟩ : ∃ z, n = z + 1 := ⟨n - 1, by omega⟩
    have hb : b < bn B := by omega
    obtain ⟨a1, a2, a3, a4, a5, a6, a7, a8⟩ := basOk_wh h hb
    obtain ⟨c1, c2, c3, c4, c5⟩ := hc b hb
    obtain ⟨i1, i2⟩ := hP.1.1 b hb
    obtain ⟨t1, t2, t3⟩ := tpl_xy (ov := true) i1 i2 w8 h8 a4 a6
    have p64 := ins_64 h hP.1.1 hb
    have hp := h3 b hb
    rw [if_neg (Nat.lt_irrefl b)] at hp
    have tP : tuP true B P b = tpl true (bw B) (bh B) (xW B b) (xH B b) (P b) := if_pos hb
    obtain ⟨rg, g1, g2⟩ : ∃ rg, f_Chart_mirrored (g b) (nI (xW B b)) (nI (bw B)) = some rg ∧ (bK B b = 5 → rg = nI (bG (tuB true B) b)) := by
      by_cases k5 : bK B b = 5
      · obtain ⟨q1, q2, q3, q4⟩ := hP.2.2 b hb k5
        have hg := h4 b hb k5
        rw [if_neg (Nat.lt_irrefl b)] at hg
        exact ⟨_, by rw [hg]; exact s_mirrored (h := bh B) (H := xH B b) (h.2.2.2.2.2.2 b hb k5) q3, fun _ => rfl⟩
      · exact ⟨_, rfl, fun z => absurd z k5⟩
    rw [f_Chart_mirror_L58, if_neg (nI_ge hb (by omega))]
    simp only [ev_grdN _ a1 (show 12 < 2 ^ 31 by decide), cl_nI a1, c3, hp]
    rw [ev_b _ (s_mirrored (h := bh B) (H := xH B b) p64 i1), ev_b _ g1, ev_b _ (s_fieldsOf (p := tpl true (bw B) (bh B) (xW B b) (xH B b) (P b)) a1 pk_us c5), ev_bnd, ev_bnd, nI_1]
    refine ih (b + 1) n _ _ _ (by omega) (by omega) (fun c hc₉ => ?_) (fun c hc₉ e5 => ?_) (fun f hf => ?_)
    · by_cases z : c = b
      · rw [z, pk_us, if_pos (Nat.lt_succ_self b), tP]
      · rw [pk_un z, h3 c hc₉]
        by_cases y : c < b
        · rw [if_pos y, if_pos (by omega)]
        · rw [if_neg y, if_neg (by omega)]
    · by_cases z : c = b
      · subst z; rw [pk_us, if_pos (Nat.lt_succ_self c), g2 e5]
      · rw [pk_un z, h4 c hc₉ e5]
        by_cases y : c < b
        · rw [if_pos y, if_pos (by omega)]
        · rw [if_neg y, if_neg (by omega)]
    · rw [tb_or, h5 f hf, any_s]
      congr 1
      rw [shp_at t3 a5 a7 (by rw [t1, if_pos rfl]; omega) hf]
      unfold fbA
      rw [(tu_x h hb).1, (tu_x h hb).2, tP]
      rfl
theorem s_mirror {B : Bas} {P : Nat → Nat} {cw chh cn : Int32} {cwl ct : Int64} {ck cp cl cg ca cwd chg : Nat → Int32} {cs : Nat → Int64} (h : basOk B) (hP : stC B P) (hc : chX B P cw chh cn cwl ct ck cp cl cg ca cwd chg cs) (ho : ∀ f, f < 64 → (bw B ≤ f % 8 ∨ bh B ≤ f / 8) → bwl B f = false) :
    ∃ cwl₉ ct₉ cp₉ cg₉, f_Chart_mirror cw cn cwl ct cp cg cwd cs = some (cwl₉, ct₉, cp₉, cg₉) ∧ chX (tuB true B) (tuP true B P) cw chh cn cwl₉ ct₉ ck cp₉ cl cg₉ ca cwd chg cs := by
  obtain ⟨c1, c2, c3, c4, c5, c6, c7, c8, c9⟩ := hc
  subst c1; subst c2; subst c3
  have n12 := h.2.2.2.2.1
  obtain ⟨V, v1, v2⟩ := s_mirW h c4 ho 64 0 jN 0 (by omega) (by show 64 < 2000000; omega) (fun f _ => by rw [tb_0, wlK_0])
  obtain ⟨t, p, g, e1, e2, e3, e4⟩ := s_mirL h hP c6 (bn B) 0 jN 0 cp cg (by omega) (by show bn B < 2000000; omega) (fun c hc => by rw [if_neg (Nat.not_lt_zero c)]; exact c7 c hc) (fun c hc e => by rw [if_neg (Nat.not_lt_zero c)]; exact c9 c hc e) (fun f _ => by rw [tb_0]; rfl)
  refine ⟨V, t, p, g, ?_, rfl, rfl, rfl, v2, e2, ?_, e3, c8, e4⟩
  · unfold f_Chart_mirror
    rw [ev_b (x := f_Chart_mirror_L12 cwl (nI (bw B)) jN 0 0) _ v1, ev_b (x := f_Chart_mirror_L58 (nI (bw B)) (nI (bn B)) cwd cs jN 0 0 cp cg) _ e1, un3_ap]
  · intro b hb
    have hb₉ : b < bn B := hb
    obtain ⟨x1, x2⟩ := tu_x (ov := true) h hb₉
    rw [x1, x2]
    exact c6 b hb₉
/-- barges below b as in the turned basin, the others as in B -/
def chQ (B : Bas) (b : Nat) (kk ka kw kh : Nat → Int32) (ks : Nat → Int64) : Prop := (∀ c, c < bn B → kk c = nI (bK B c)) ∧ (∀ c, c < b → ka c = bI (decide (bY (tuB false B) c = 1)) ∧ kw c = nI (xW (tuB false B) c) ∧ kh c = nI (xH (tuB false B) c) ∧ ks c = shp (xW (tuB false B) c) (xH (tuB false B) c)) ∧ (∀ c, b ≤ c → c < bn B → ka c = bI (decide (bY B c = 1)) ∧ kw c = nI (xW B c) ∧ kh c = nI (xH B c) ∧ ks c = shp (xW B c) (xH B c))
theorem s_quaL {B : Bas} {P : Nat → Nat} {kk kl : Nat → Int32} (h : basOk B) (hP : stC B P) (hl : ∀ c, c < bn B → kl c = nI (bS B c)) : ∀ (r b n : Nat) (t : Int64) (p g a w hg : Nat → Int32) (s : Nat → Int64), b + r = bn B → r < n → chQ B b kk a w hg s → (∀ c, c < bn B → p c = nI (if c < b then tuP false B P c else P c)) → (∀ c, c < bn B → bK B c = 5 → g c = nI (if c < b then bG (tuB false B) c else bG B c)) → (∀ f, f < 64 → tb t f = (List.range b).any fun c => fbA (tuB false B) (tuP false B P) c f) →
    ∃ t₉ p₉ g₉ a₉ w₉ hg₉ s₉, f_Chart_quarter_L58 (nI (bh B)) (nI (bn B)) kk kl n (nI b) t p g a w hg s = some (t₉, p₉, g₉, a₉, w₉, hg₉, s₉) ∧ chT (tuB false B) (tuP false B P) t₉ ∧ chP (tuB false B) (tuP false B P) p₉ ∧ chG (tuB false B) g₉ ∧ chB (tuB false B) kk a₉ w₉ hg₉ s₉ := by
  have n12 := h.2.2.2.2.1
  have w8 := h.2.1
  have h8 := h.2.2.2.1
  have hB := tu_bas (ov := false) h hP
  intro r
  induction r with
  | zero =>
    intro b n t p g a w hg s h1 h2 hq h3 h4 h5
    obtain ⟨n, rfl⟩ : ∃ z, n = z + 1 := ⟨n - 1, by omega⟩
    have e : b = bn B := by omega
    subst e
    exact ⟨t, p, g, a, w, hg, s, by rw [f_Chart_quarter_L58, if_pos (nI_le (Nat.le_refl _) (by omega))], h5, fun c hc₉ => by rw [h3 c hc₉, if_pos (show c < bn B from hc₉)], fun c hc₉ e5 => by rw [h4 c hc₉ e5, if_pos (show c < bn B from hc₉)], fun c hc₉ => ⟨hq.1 c hc₉, hq.2.1 c hc₉⟩⟩
  | succ r ih =>
    intro b n t p g a w hg s h1 h2 hq h3 h4 h5
    obtain ⟨n, rfl⟩ : ∃ z, n = z + 1 := ⟨n - 1, by omega⟩
    have hb : b < bn B := by omega
    obtain ⟨a1, a2, a3, a4, a5, a6, a7, a8⟩ := basOk_wh h hb
    obtain ⟨q1, q2, q3⟩ := hq
    obtain ⟨c2, c3, c4, c5⟩ := q3 b (Nat.le_refl _) hb
    obtain ⟨i1, i2⟩ := hP.1.1 b hb
    obtain ⟨t1, t2, t3⟩ := tpl_xy (ov := false) i1 i2 w8 h8 a4 a6
    obtain ⟨x1, x2⟩ := tu_x (ov := false) h hb
    have bg : bgOk (bK B b) (bS B b) (bY (tuB false B) b) := hB.2.2.2.2.2.1 b hb
    have p64 := ins_64 h hP.1.1 hb
    have hp := h3 b hb
    rw [if_neg (Nat.lt_irrefl b)] at hp
    have tP : tuP false B P b = tpl false (bw B) (bh B) (xW B b) (xH B b) (P b) := if_pos hb
    obtain ⟨rg, g1, g2⟩ : ∃ rg, f_Chart_turned (g b) (nI (xH B b)) (nI (bh B)) = some rg ∧ (bK B b = 5 → rg = nI (bG (tuB false B) b)) := by
      by_cases k5 : bK B b = 5
      · obtain ⟨q1, q2, q3, q4⟩ := hP.2.2 b hb k5
        have hg := h4 b hb k5
        rw [if_neg (Nat.lt_irrefl b)] at hg
        exact ⟨_, by rw [hg]; exact s_turned (w := bw B) (W := xW B b) (h.2.2.2.2.2.2 b hb k5) q4, fun _ => rfl⟩
      · exact ⟨_, rfl, fun z => absurd z k5⟩
    have J : f_Chart_quarter_J141 (f_Chart_quarter_L58 (nI (bh B)) (nI (bn B)) kk kl n) (nI b) (nI b) (bI (decide (bY (tuB false B) b = 1))) t kk (upd p b (nI (tpl false (bw B) (bh B) (xW B b) (xH B b) (P b)))) kl (upd g b rg) a w hg s = f_Chart_quarter_L58 (nI (bh B)) (nI (bn B)) kk kl n (nI (b + 1)) (t ||| jlshl (shp (xW (tuB false B) b) (xH (tuB false B) b)) (nI (tpl false (bw B) (bh B) (xW B b) (xH B b) (P b)))) (upd p b (nI (tpl false (bw B) (bh B) (xW B b) (xH B b) (P b)))) (upd g b rg) (upd a b (bI (decide (bY (tuB false B) b = 1)))) (upd w b (nI (xW (tuB false B) b))) (upd hg b (nI (xH (tuB false B) b))) (vp_updL s b (shp (xW (tuB false B) b) (xH (tuB false B) b))) := by
      unfold f_Chart_quarter_J141
      rw [ev_grdN _ a1 (by decide), cl_nI a1, nar_bI, ev_b _ (s_form a1 bg (q1 b hb) (hl b hb) pk_us), un3_ap, ev_b _ (s_fieldsOf (p := tpl false (bw B) (bh B) (xW B b) (xH B b) (P b)) a1 pk_us pk_uLs), ev_bnd, ev_bnd, nI_1]
      rfl
    have yT : bY (tuB false B) b = (if bK B b = 1 ∨ bK B b = 5 then 1 - bY B b else bY B b) := rfl
    have sel : (if bI (decide (bK B b = 1 ∨ bK B b = 5)) = 0 then f_Chart_quarter_J140 (f_Chart_quarter_L58 (nI (bh B)) (nI (bn B)) kk kl n) (nI b) (nI b) t kk (upd p b (nI (tpl false (bw B) (bh B) (xW B b) (xH B b) (P b)))) kl (upd g b rg) a w hg s else (if bI (decide (bY B b = 1)) = 0 then f_Chart_quarter_J141 (f_Chart_quarter_L58 (nI (bh B)) (nI (bn B)) kk kl n) (nI b) (nI b) 1 t kk (upd p b (nI (tpl false (bw B) (bh B) (xW B b) (xH B b) (P b)))) kl (upd g b rg) a w hg s else f_Chart_quarter_J140 (f_Chart_quarter_L58 (nI (bh B)) (nI (bn B)) kk kl n) (nI b) (nI b) t kk (upd p b (nI (tpl false (bw B) (bh B) (xW B b) (xH B b) (P b)))) kl (upd g b rg) a w hg s)) = f_Chart_quarter_J141 (f_Chart_quarter_L58 (nI (bh B)) (nI (bn B)) kk kl n) (nI b) (nI b) (bI (decide (bY (tuB false B) b = 1))) t kk (upd p b (nI (tpl false (bw B) (bh B) (xW B b) (xH B b) (P b)))) kl (upd g b rg) a w hg s := by
      rw [yT]
      obtain ⟨l1, l2, l3⟩ := h.2.2.2.2.2.1 b hb
      by_cases k : bK B b = 1 ∨ bK B b = 5
      · rw [if_pos k, decide_eq_true k, if_neg (show ¬ bI true = 0 by decide)]
        by_cases y1 : bY B b = 1
        · rw [y1, if_neg (show ¬ bI (decide (1 = 1)) = 0 by decide)]; rfl
        · rw [show bY B b = 0 by omega, if_pos (show bI (decide (0 = 1)) = 0 by decide)]; rfl
      · rw [if_neg k, decide_eq_false k, if_pos (show bI false = 0 by decide), decide_eq_false (show ¬ bY B b = 1 from fun z => k (l3 z))]; rfl
    rw [f_Chart_quarter_L58, if_neg (nI_ge hb (by omega))]
    simp only [ev_grdN _ a1 (show 12 < 2 ^ 31 by decide), cl_nI a1, c4, hp, q1 b hb, c2]
    rw [ev_b _ (s_turned (w := bw B) (W := xW B b) p64 i2), ev_b _ g1, ev_b _ (s_isBound a2), sel, J]
    refine ih (b + 1) n _ _ _ _ _ _ _ (by omega) (by omega) ⟨q1, fun c hc₉ => ?_, fun c hc1 hc2 => ?_⟩ (fun c hc₉ => ?_) (fun c hc₉ e5 => ?_) (fun f hf => ?_)
    · by_cases z : c = b
      · subst z; rw [pk_us, pk_us, pk_us, pk_uLs]; exact ⟨rfl, rfl, rfl, rfl⟩
      · rw [pk_un z, pk_un z, pk_un z, pk_uLn z]; exact q2 c (by omega)
    · have z : c ≠ b := by omega
      rw [pk_un z, pk_un z, pk_un z, pk_uLn z]; exact q3 c (by omega) hc2
    · by_cases z : c = b
      · rw [z, pk_us, if_pos (Nat.lt_succ_self b), tP]
      · rw [pk_un z, h3 c hc₉]
        by_cases y : c < b
        · rw [if_pos y, if_pos (by omega)]
        · rw [if_neg y, if_neg (by omega)]
    · by_cases z : c = b
      · subst z; rw [pk_us, if_pos (Nat.lt_succ_self c), g2 e5]
      · rw [pk_un z, h4 c hc₉ e5]
        by_cases y : c < b
        · rw [if_pos y, if_pos (by omega)]
        · rw [if_neg y, if_neg (by omega)]
    · rw [tb_or, h5 f hf, any_s]
      congr 1
      have xx1 : xW (tuB false B) b = xH B b := x1
      have xx2 : xH (tuB false B) b = xW B b := x2
      unfold fbA
      rw [xx1, xx2, shp_at t3 a7 a5 (by rw [t1, if_neg (by decide)]; omega) hf, tP]
theorem s_quarter {B : Bas} {P : Nat → Nat} {cw chh cn : Int32} {cwl ct : Int64} {ck cp cl cg ca cwd chg : Nat → Int32} {cs : Nat → Int64} (h : basOk B) (hP : stC B P) (hc : chX B P cw chh cn cwl ct ck cp cl cg ca cwd chg cs) (ho : ∀ f, f < 64 → (bw B ≤ f % 8 ∨ bh B ≤ f / 8) → bwl B f = false) :
    ∃ cwl₉ ct₉ cp₉ cg₉ ca₉ cwd₉ chg₉ cs₉, f_Chart_quarter cw chh cn cwl ct ck cp cl cg ca cwd chg cs = some (chh, cw, cwl₉, ct₉, cp₉, cg₉, ca₉, cwd₉, chg₉, cs₉) ∧ chX (tuB false B) (tuP false B P) chh cw cn cwl₉ ct₉ ck cp₉ cl cg₉ ca₉ cwd₉ chg₉ cs₉ := by
  obtain ⟨c1, c2, c3, c4, c5, c6, c7, c8, c9⟩ := hc
  subst c1; subst c2; subst c3
  have n12 := h.2.2.2.2.1
  obtain ⟨V, v1, v2⟩ := s_quaW h c4 ho 64 0 jN 0 (by omega) (by show 64 < 2000000; omega) (fun f _ => by rw [tb_0, wlK_0])
  obtain ⟨t, p, g, a, w, hg, s, e1, e2, e3, e4, e5⟩ := s_quaL h hP c8 (bn B) 0 jN 0 cp cg ca cwd chg cs (by omega) (by show bn B < 2000000; omega) ⟨fun c hc => (c6 c hc).1, fun c hc => absurd hc (Nat.not_lt_zero c), fun c _ hc => (c6 c hc).2⟩ (fun c hc => by rw [if_neg (Nat.not_lt_zero c)]; exact c7 c hc) (fun c hc e => by rw [if_neg (Nat.not_lt_zero c)]; exact c9 c hc e) (fun f _ => by rw [tb_0]; rfl)
  refine ⟨V, t, p, g, a, w, hg, s, ?_, rfl, rfl, rfl, v2, e2, e5, e3, c8, e4⟩
  unfold f_Chart_quarter
  rw [ev_b (x := f_Chart_quarter_L12 cwl (nI (bh B)) jN 0 0) _ v1, ev_b (x := f_Chart_quarter_L58 (nI (bh B)) (nI (bn B)) ck cl jN 0 0 cp cg ca cwd chg cs) _ e1, un7_ap]
end
section
/-! Lines that tell the walls: showWalls of the class, linesByWalls of the reference. -/
theorem s_shwX {B : Bas} {y : Nat} {cwl : Int64} (h : basOk B) (hw : chW B cwl) (hy : y < 8) : ∀ (r x n : Nat) (num : Nat → Int32), x + r = bw B → r < n → (∀ i, i < x → num (8 * y + i) = bI (bwl B (i + 8 * y))) → ∃ N, f_Lines_showWalls_L26 (nI y) (nI (bw B)) cwl n (nI x) num = some N ∧ (∀ i, i < bw B → N (8 * y + i) = bI (bwl B (i + 8 * y))) ∧ (∀ f, f / 8 ≠ y → N f = num f) := by
  have w8 := h.2.1
  intro r
  induction r with
  | zero =>
    intro x n num h1 h2 h3
    obtain ⟨n, rfl⟩ : ∃ z, n = z + 1 := ⟨n - 1, by omega⟩
    have e : x = bw B := by omega
    subst e
    exact ⟨num, by rw [f_Lines_showWalls_L26, if_pos (nI_le (Nat.le_refl _) (by omega))], h3, fun _ _ => rfl⟩
  | succ r ih =>
    intro x n num h1 h2 h3
    obtain ⟨n, rfl⟩ : ∃ z, n = z + 1 := ⟨n - 1, by omega⟩
    have e : (8 : Int32) * nI y + nI x = nI (8 * y + x) := by rw [i8, nI_add]
    have wr : ∀ v, f_Lines_write (nI y) (nI x) v num = some (upd num (8 * y + x) v) := by
      intro v
      unfold f_Lines_write
      rw [e, ev_grdN _ (show 8 * y + x < 64 by omega) (by decide), nI_clamp (by omega)]
    obtain ⟨N, n1, n2, n3⟩ := ih (x + 1) n (upd num (8 * y + x) (bI (bwl B (x + 8 * y)))) (by omega) (by omega) (fun i hi => by
      by_cases z : i = x
      · rw [z, pk_us]
      · rw [pk_un (by omega)]; exact h3 i (by omega))
    refine ⟨N, ?_, n2, fun f hf => by rw [n3 f hf, pk_un (by omega)]⟩
    rw [f_Lines_showWalls_L26, if_neg (nI_ge (show x < bw B by omega) (by omega)), ev_b _ (s_isWall h hw (by omega) hy), ev_b _ (wr 0), ev_b _ (wr 1)]
    simp only [ev_bnd, nI_1]
    rw [← n1]
    cases bwl B (x + 8 * y) <;> rfl
theorem s_shwY {B : Bas} {cwl : Int64} (h : basOk B) (hw : chW B cwl) : ∀ (r y n : Nat) (so si num : Nat → Int32), y + r = bh B → r < n → (∀ z, z < y → so z = 0 ∧ si z = nI (bw B) ∧ ∀ i, i < bw B → num (8 * z + i) = bI (bwl B (i + 8 * z))) → (∀ z, y ≤ z → z < 8 → so z = -1) → ∃ S Z N, f_Lines_showWalls_L6 (nI (bw B)) (nI (bh B)) cwl n (nI y) so si num = some (S, Z, N) ∧ (∀ z, z < bh B → S z = 0 ∧ Z z = nI (bw B) ∧ ∀ i, i < bw B → N (8 * z + i) = bI (bwl B (i + 8 * z))) ∧ (∀ z, bh B ≤ z → z < 8 → S z = -1) := by
  have w8 := h.2.1
  have h8 := h.2.2.2.1
  intro r
  induction r with
  | zero =>
    intro y n so si num h1 h2 h3 h4
    obtain ⟨n, rfl⟩ : ∃ z, n = z + 1 := ⟨n - 1, by omega⟩
    have e : y = bh B := by omega
    subst e
    exact ⟨so, si, num, by rw [f_Lines_showWalls_L6, if_pos (nI_le (Nat.le_refl _) (by omega))], h3, h4⟩
  | succ r ih =>
    intro y n so si num h1 h2 h3 h4
    obtain ⟨n, rfl⟩ : ∃ z, n = z + 1 := ⟨n - 1, by omega⟩
    have y8 : y < 8 := by omega
    have l17 := s_layZ y8 8 0 jN num (by omega) (by show 8 < 2000000; omega)
    have lay : f_Lines_lay (nI y) 0 (nI (bw B)) so si num = some (upd so y 0, upd si y (nI (bw B)), fun f => if f / 8 = y ∧ 0 ≤ f % 8 then 0 else num f) := by
      unfold f_Lines_lay
      rw [ev_grdN _ y8 (by decide), ev_grdN _ y8 (by decide), ev_b (x := f_Lines_lay_L17 (nI y) jN 0 num) _ l17, nI_clamp (show y < 2 ^ 31 by omega)]
    obtain ⟨N, n1, n2, n3⟩ := s_shwX h hw y8 (bw B) 0 jN (fun f => if f / 8 = y ∧ 0 ≤ f % 8 then 0 else num f) (by omega) (by show bw B < 2000000; omega) (fun i hi => by omega)
    obtain ⟨S, Z, M, m1, m2, m3⟩ := ih (y + 1) n (upd so y 0) (upd si y (nI (bw B))) N (by omega) (by omega) (fun z hz => by
      by_cases e : z = y
      · subst e; rw [pk_us, pk_us]; exact ⟨rfl, rfl, n2⟩
      · rw [pk_un e, pk_un e]
        obtain ⟨q1, q2, q3⟩ := h3 z (by omega)
        refine ⟨q1, q2, fun i hi => ?_⟩
        rw [n3 _ (by omega), if_neg (by omega)]
        exact q3 i hi) (fun z h5 h6 => by rw [pk_un (by omega)]; exact h4 z (by omega) h6)
    refine ⟨S, Z, M, ?_, m2, m3⟩
    rw [f_Lines_showWalls_L6, if_neg (nI_ge (show y < bh B by omega) (by omega)), ev_b _ lay, un3_ap, ev_b (x := f_Lines_showWalls_L26 (nI y) (nI (bw B)) cwl jN 0 _) _ n1, ev_bnd, nI_1]
    exact m1
theorem s_showWalls {B : Bas} {cwl : Int64} (h : basOk B) (hw : chW B cwl) (so si num : Nat → Int32) : ∃ S Z N, f_Lines_showWalls so si num (nI (bw B)) (nI (bh B)) cwl = some (S, Z, N) ∧ (∀ z, z < bh B → S z = 0 ∧ Z z = nI (bw B) ∧ ∀ i, i < bw B → N (8 * z + i) = bI (bwl B (i + 8 * z))) ∧ (∀ z, bh B ≤ z → z < 8 → S z = -1) := by
  have h8 := h.2.2.2.1
  obtain ⟨S, Z, M, m1, m2, m3⟩ := s_shwY h hw (bh B) 0 jN (fun f => if f < 8 then -1 else so f) si num (by omega) (by show bh B < 2000000; omega) (fun z hz => absurd hz (Nat.not_lt_zero z)) (fun z _ hz => if_pos hz)
  refine ⟨S, Z, M, ?_, m2, m3⟩
  unfold f_Lines_showWalls
  rw [ev_b _ (s_tearAll so), ev_b (x := f_Lines_showWalls_L6 (nI (bw B)) (nI (bh B)) cwl jN 0 _ si num) _ m1, un3_ap]
theorem m_lbwX {B : Bas} {y : Nat} {kwl : Nat → Int32} (h : basOk B) (hw : rfW B kwl) (hy : y < 8) : ∀ (r x n : Nat) (num : Nat → Int32), x + r = 8 → r < n → (∀ i, i < x → i < bw B → num (8 * y + i) = bI (bwl B (i + 8 * y))) → ∃ N, f_BargeBasinModel_linesByWalls_L29 (nI y) (nI (bw B)) kwl n (nI x) num = some N ∧ (∀ i, i < bw B → N (8 * y + i) = bI (bwl B (i + 8 * y))) ∧ (∀ f, f / 8 ≠ y → N f = num f) := by
  have w8 := h.2.1
  intro r
  induction r with
  | zero =>
    intro x n num h1 h2 h3
    obtain ⟨n, rfl⟩ : ∃ z, n = z + 1 := ⟨n - 1, by omega⟩
    have e : x = 8 := by omega
    subst e
    exact ⟨num, by rw [f_BargeBasinModel_linesByWalls_L29, if_pos (show (8 : Int32) ≤ nI 8 by decide)], fun i hi => h3 i (by omega) hi, fun _ _ => rfl⟩
  | succ r ih =>
    intro x n num h1 h2 h3
    obtain ⟨n, rfl⟩ : ∃ z, n = z + 1 := ⟨n - 1, by omega⟩
    have e : (8 : Int32) * nI y + nI x = nI (8 * y + x) := by rw [i8, nI_add]
    have e₉ : nI x + (8 : Int32) * nI y = nI (x + 8 * y) := by rw [i8, nI_add]
    have le : (nI (bw B) ≤ nI x) = (bw B ≤ x) := nI_leE (by omega) (by omega)
    have st : ∀ v, (x < bw B → v = bI (bwl B (x + 8 * y))) → ∃ N, f_BargeBasinModel_linesByWalls_L29 (nI y) (nI (bw B)) kwl n (nI (x + 1)) (upd num (8 * y + x) v) = some N ∧ (∀ i, i < bw B → N (8 * y + i) = bI (bwl B (i + 8 * y))) ∧ (∀ f, f / 8 ≠ y → N f = num f) := by
      intro v hv
      obtain ⟨N, n1, n2, n3⟩ := ih (x + 1) n (upd num (8 * y + x) v) (by omega) (by omega) (fun i hi hi2 => by
        by_cases z : i = x
        · subst z; rw [pk_us]; exact hv hi2
        · rw [pk_un (by omega)]; exact h3 i (by omega) hi2)
      exact ⟨N, n1, n2, fun f hf => by rw [n3 f hf, pk_un (by omega)]⟩
    rw [f_BargeBasinModel_linesByWalls_L29, if_neg (show ¬ (8 : Int32) ≤ nI x from nI_ge (b := 8) (by omega) (by decide)), e, e₉]
    simp only [le, ev_grdN _ (show 8 * y + x < 64 by omega) (show 64 < 2 ^ 31 by decide), ev_grdN _ (show x + 8 * y < 64 by omega) (show 64 < 2 ^ 31 by decide), nI_clamp (show 8 * y + x < 2 ^ 31 by omega), nI_clamp (show x + 8 * y < 2 ^ 31 by omega), ev_bnd, nI_1, hw _ (show x + 8 * y < 64 by omega)]
    by_cases c : bw B ≤ x
    · rw [if_pos c]; exact st 0 (fun z => by omega)
    · rw [if_neg c]
      cases eb : bwl B (x + 8 * y) with
      | false => rw [if_pos (show bI false = 0 by decide)]; exact st 0 (fun _ => by rw [eb]; rfl)
      | true => rw [if_neg (show ¬ bI true = 0 by decide)]; exact st 1 (fun _ => by rw [eb]; rfl)
theorem m_lbwY {B : Bas} {kwl : Nat → Int32} (h : basOk B) (hw : rfW B kwl) : ∀ (r y n : Nat) (so si num : Nat → Int32), y + r = bh B → r < n → (∀ z, z < y → so z = 0 ∧ si z = nI (bw B) ∧ ∀ i, i < bw B → num (8 * z + i) = bI (bwl B (i + 8 * z))) → ∃ S Z N, f_BargeBasinModel_linesByWalls_L2 (nI (bw B)) (nI (bh B)) kwl n (nI y) so si num = some (S, Z, N) ∧ (∀ z, z < bh B → S z = 0 ∧ Z z = nI (bw B) ∧ ∀ i, i < bw B → N (8 * z + i) = bI (bwl B (i + 8 * z))) ∧ (∀ z, bh B ≤ z → Z z = si z) := by
  have w8 := h.2.1
  have h8 := h.2.2.2.1
  intro r
  induction r with
  | zero =>
    intro y n so si num h1 h2 h3
    obtain ⟨n, rfl⟩ : ∃ z, n = z + 1 := ⟨n - 1, by omega⟩
    have e : y = bh B := by omega
    subst e
    exact ⟨so, si, num, by rw [f_BargeBasinModel_linesByWalls_L2, if_pos (nI_le (Nat.le_refl _) (by omega))], h3, fun _ _ => rfl⟩
  | succ r ih =>
    intro y n so si num h1 h2 h3
    obtain ⟨n, rfl⟩ : ∃ z, n = z + 1 := ⟨n - 1, by omega⟩
    have y8 : y < 8 := by omega
    obtain ⟨N, n1, n2, n3⟩ := m_lbwX h hw y8 8 0 jN num (by omega) (by show 8 < 2000000; omega) (fun i hi => by omega)
    obtain ⟨S, Z, M, m1, m2, m3⟩ := ih (y + 1) n (upd so y 0) (upd si y (nI (bw B))) N (by omega) (by omega) (fun z hz => by
      by_cases e : z = y
      · subst e; rw [pk_us, pk_us]; exact ⟨rfl, rfl, n2⟩
      · rw [pk_un e, pk_un e]
        obtain ⟨q1, q2, q3⟩ := h3 z (by omega)
        refine ⟨q1, q2, fun i hi => ?_⟩
        rw [n3 _ (by omega)]
        exact q3 i hi)
    refine ⟨S, Z, M, ?_, m2, fun z hz => by rw [m3 z hz, pk_un (by omega)]⟩
    rw [f_BargeBasinModel_linesByWalls_L2, if_neg (nI_ge (show y < bh B by omega) (by omega)), ev_grdN _ y8 (by decide), ev_grdN _ y8 (by decide), ev_b (x := f_BargeBasinModel_linesByWalls_L29 (nI y) (nI (bw B)) kwl jN 0 num) _ n1, ev_bnd, nI_1, nI_clamp (show y < 2 ^ 31 by omega)]
    exact m1
theorem m_linesByWalls {B : Bas} {kwl : Nat → Int32} (h : basOk B) (hw : rfW B kwl) (so si num : Nat → Int32) : ∃ S Z N, f_BargeBasinModel_linesByWalls (nI (bw B)) (nI (bh B)) so si num kwl = some (S, Z, N) ∧ (∀ z, z < bh B → S z = 0 ∧ Z z = nI (bw B) ∧ ∀ i, i < bw B → N (8 * z + i) = bI (bwl B (i + 8 * z))) ∧ (∀ z, bh B ≤ z → Z z = si z) := by
  have h8 := h.2.2.2.1
  obtain ⟨S, Z, M, m1, m2, m3⟩ := m_lbwY h hw (bh B) 0 jN so si num (by omega) (by show bh B < 2000000; omega) (fun z hz => absurd hz (Nat.not_lt_zero z))
  refine ⟨S, Z, M, ?_, m2, m3⟩
  unfold f_BargeBasinModel_linesByWalls
  rw [ev_b (x := f_BargeBasinModel_linesByWalls_L2 (nI (bw B)) (nI (bh B)) kwl jN 0 so si num) _ m1, un3_ap]
theorem byw_ln {B : Bas} {S Z N S₉ Z₉ N₉ : Nat → Int32} (h : basOk B) (ho : ∀ f, f < 64 → (bw B ≤ f % 8 ∨ bh B ≤ f / 8) → bwl B f = false) (h1 : ∀ z, z < bh B → S z = 0 ∧ Z z = nI (bw B) ∧ ∀ i, i < bw B → N (8 * z + i) = bI (bwl B (i + 8 * z))) (h2 : ∀ z, bh B ≤ z → z < 8 → S z = -1) (h3 : ∀ z, z < bh B → S₉ z = 0 ∧ Z₉ z = nI (bw B) ∧ ∀ i, i < bw B → N₉ (8 * z + i) = bI (bwl B (i + 8 * z))) (h4 : ∀ z, bh B ≤ z → z < 8 → Z₉ z < 0) : lnR B S Z N S₉ Z₉ N₉ := by
  have w8 := h.2.1
  have h8 := h.2.2.2.1
  refine ⟨fun y hy => ?_, fun y x hy hx => ?_, ho, h4⟩
  · by_cases c : y < bh B
    · obtain ⟨a1, a2, a3⟩ := h1 y c
      obtain ⟨b1, b2, b3⟩ := h3 y c
      exact Or.inr ⟨0, bw B, by decide, w8, a1, b1, a2, b2, fun i hi => by rw [a3 i hi, b3 i hi]⟩
    · exact Or.inl ⟨h2 y (by omega) hy, h4 y (by omega) hy⟩
  · obtain ⟨b1, b2, b3⟩ := h3 y hy
    unfold wlL
    rw [b2, if_neg (nI_nn (by omega)), if_neg (nI_ge hx (by omega)), b3 x hx]
    cases bwl B (x + 8 * y) <;> rfl
end
section
/-! turn of the reference. -/
theorem m_turned {ov : Bool} {w h W H p : Nat} (hp : p < 64) (hw : p % 8 + W ≤ w) (hh : p / 8 + H ≤ h) : f_BargeBasinModel_turned (nI p) (nI W) (nI H) (nI w) (nI h) (bI ov) = some (nI (tpl ov w h W H p)) := by
  unfold f_BargeBasinModel_turned
  rw [ev_div _ (by decide), ev_bnd, ev_div _ (by decide), ev_bnd, geo_r8 (show p < 2 ^ 31 by omega), geo_d8 (show p < 2 ^ 31 by omega)]
  unfold tpl
  cases ov with
  | true =>
    rw [if_neg (show ¬ bI true = 0 by decide), if_pos rfl, nI_subE (show p % 8 ≤ w by omega), nI_subE (show W ≤ w - p % 8 by omega), i8, nI_add, Nat.add_comm, Nat.mul_comm]
  | false =>
    rw [if_pos (show bI false = 0 by decide), if_neg (by decide), nI_subE (show p / 8 ≤ h by omega), nI_subE (show H ≤ h - p / 8 by omega), i8, nI_add, Nat.add_comm]
theorem one_sub : ∀ y, y < 2 → (1 : Int32) - nI y = nI (1 - y) := by decide
theorem m_turL {ov : Bool} {B : Bas} {P : Nat → Nat} {kk ks : Nat → Int32} (h : basOk B) (hP : stC B P) (hk : ∀ b, b < bn B → kk b = nI (bK B b)) (hs : ∀ b, b < bn B → ks b = nI (bS B b)) : ∀ (r b n : Nat) (p y g : Nat → Int32), b + r = bn B → r < n → (∀ c, c < bn B → p c = nI (if c < b then tuP ov B P c else P c)) → (∀ c, c < bn B → y c = nI (if c < b then bY (tuB ov B) c else bY B c)) → (∀ c, c < bn B → bK B c = 5 → g c = nI (if c < b then bG (tuB ov B) c else bG B c)) →
    ∃ p₉ y₉ g₉, f_BargeBasinModel_turn_L25 (bI ov) (nI (bw B)) (nI (bh B)) (nI (bn B)) kk ks n (nI b) p y g = some (p₉, y₉, g₉) ∧ chP (tuB ov B) (tuP ov B P) p₉ ∧ rfB (tuB ov B) kk ks y₉ ∧ chG (tuB ov B) g₉ := by
  have n12 := h.2.2.2.2.1
  have w8 := h.2.1
  have h8 := h.2.2.2.1
  intro r
  induction r with
  | zero =>
    intro b n p y g h1 h2 h3 hy h4
    obtain ⟨n, rfl⟩ : ∃ z, n = z + 1 := ⟨n - 1, by omega⟩
    have e : b = bn B := by omega
    subst e
    exact ⟨p, y, g, by rw [f_BargeBasinModel_turn_L25, if_pos (nI_le (Nat.le_refl _) (by omega))], fun c hc₉ => by rw [h3 c hc₉, if_pos (show c < bn B from hc₉)], fun c hc₉ => ⟨hk c hc₉, hs c hc₉, by rw [hy c hc₉, if_pos (show c < bn B from hc₉)]⟩, fun c hc₉ e5 => by rw [h4 c hc₉ e5, if_pos (show c < bn B from hc₉)]⟩
  | succ r ih =>
    intro b n p y g h1 h2 h3 hy h4
    obtain ⟨n, rfl⟩ : ∃ z, n = z + 1 := ⟨n - 1, by omega⟩
    have hb : b < bn B := by omega
    obtain ⟨a1, a2, a3, a4, a5, a6, a7, a8⟩ := basOk_wh h hb
    obtain ⟨i1, i2⟩ := hP.1.1 b hb
    have p64 := ins_64 h hP.1.1 hb
    have hp := h3 b hb
    rw [if_neg (Nat.lt_irrefl b)] at hp
    have hyb := hy b hb
    rw [if_neg (Nat.lt_irrefl b)] at hyb
    have tP : tuP ov B P b = tpl ov (bw B) (bh B) (xW B b) (xH B b) (P b) := if_pos hb
    have c5 : (nI (bK B b) = 5) = (bK B b = 5) := nI_eqL (j := 5) (by omega) (by decide)
    have yT : bY (tuB ov B) b = (if ov = true then bY B b else if bK B b = 1 ∨ bK B b = 5 then 1 - bY B b else bY B b) := rfl
    have J : ∀ rg, (bK B b = 5 → rg = nI (bG (tuB ov B) b)) → ∃ p₉ y₉ g₉, f_BargeBasinModel_turn_J118 (f_BargeBasinModel_turn_L25 (bI ov) (nI (bw B)) (nI (bh B)) (nI (bn B)) kk ks n) (bI ov) (nI b) (nI b) rg kk (upd p b (nI (tpl ov (bw B) (bh B) (xW B b) (xH B b) (P b)))) y g = some (p₉, y₉, g₉) ∧ chP (tuB ov B) (tuP ov B P) p₉ ∧ rfB (tuB ov B) kk ks y₉ ∧ chG (tuB ov B) g₉ := by
      intro rg hg
      have pc : ∀ c, c < bn B → upd p b (nI (tpl ov (bw B) (bh B) (xW B b) (xH B b) (P b))) c = nI (if c < b + 1 then tuP ov B P c else P c) := by
        intro c hc₉
        by_cases z : c = b
        · rw [z, pk_us, if_pos (Nat.lt_succ_self b), tP]
        · rw [pk_un z, h3 c hc₉]
          by_cases y : c < b
          · rw [if_pos y, if_pos (by omega)]
          · rw [if_neg y, if_neg (by omega)]
      have gc : ∀ c, c < bn B → bK B c = 5 → upd g b rg c = nI (if c < b + 1 then bG (tuB ov B) c else bG B c) := by
        intro c hc₉ e5
        by_cases z : c = b
        · subst z; rw [pk_us, if_pos (Nat.lt_succ_self c), hg e5]
        · rw [pk_un z, h4 c hc₉ e5]
          by_cases y : c < b
          · rw [if_pos y, if_pos (by omega)]
          · rw [if_neg y, if_neg (by omega)]
      have yc0 : bY (tuB ov B) b = bY B b → ∀ c, c < bn B → y c = nI (if c < b + 1 then bY (tuB ov B) c else bY B c) := by
        intro e c hc₉
        rw [hy c hc₉]
        by_cases z : c = b
        · subst z; rw [if_neg (Nat.lt_irrefl c), if_pos (Nat.lt_succ_self c), e]
        · by_cases y : c < b
          · rw [if_pos y, if_pos (by omega)]
          · rw [if_neg y, if_neg (by omega)]
      unfold f_BargeBasinModel_turn_J118
      rw [ev_grdN _ a1 (by decide), cl_nI a1]
      simp only [ev_bnd, nI_1]
      cases ov with
      | true =>
        rw [if_neg (show ¬ bI true = 0 by decide)]
        exact ih (b + 1) n _ _ _ (by omega) (by omega) pc (yc0 rfl) gc
      | false =>
        rw [if_pos (show bI false = 0 by decide), ev_b _ (m_isLong a1 (hk b hb) a2)]
        by_cases k : bK B b = 1 ∨ bK B b = 5
        · rw [decide_eq_true k, if_neg (show ¬ bI true = 0 by decide), ev_grdN _ a1 (by decide), ev_grdN _ a1 (by decide), hyb, one_sub _ a3]
          refine ih (b + 1) n _ _ _ (by omega) (by omega) pc (fun c hc₉ => ?_) gc
          by_cases z : c = b
          · subst z; rw [pk_us, if_pos (Nat.lt_succ_self c), yT, if_neg (by decide), if_pos k]
          · rw [pk_un z, hy c hc₉]
            by_cases y : c < b
            · rw [if_pos y, if_pos (by omega)]
            · rw [if_neg y, if_neg (by omega)]
        · rw [decide_eq_false k, if_pos (show bI false = 0 by decide)]
          exact ih (b + 1) n _ _ _ (by omega) (by omega) pc (yc0 (by rw [yT, if_neg (by decide), if_neg k])) gc
    rw [f_BargeBasinModel_turn_L25, if_neg (nI_ge hb (by omega)), ev_b _ (m_wide a1 (hk b hb) (hs b hb) hyb a2 a3), ev_b _ (m_tall a1 (hk b hb) (hs b hb) hyb a2 a3)]
    simp only [ev_grdN _ a1 (show 12 < 2 ^ 31 by decide), cl_nI a1, hp, hk b hb, c5, pk_us]
    rw [ev_b (x := f_BargeBasinModel_turned (nI (P b)) (nI (bW (bK B b) (bS B b) (bY B b))) (nI (bH (bK B b) (bS B b) (bY B b))) (nI (bw B)) (nI (bh B)) (bI ov)) _ (m_turned (W := xW B b) (H := xH B b) p64 i1 i2)]
    by_cases k5 : bK B b = 5
    · obtain ⟨q1, q2, q3, q4⟩ := hP.2.2 b hb k5
      have hg := h4 b hb k5
      rw [if_neg (Nat.lt_irrefl b)] at hg
      rw [if_pos k5, hg, ev_b (x := f_BargeBasinModel_turned (nI (bG B b)) (nI (bW (bK B b) (bS B b) (bY B b))) (nI (bH (bK B b) (bS B b) (bY B b))) (nI (bw B)) (nI (bh B)) (bI ov)) _ (m_turned (W := xW B b) (H := xH B b) (h.2.2.2.2.2.2 b hb k5) q3 q4)]
      exact J _ (fun _ => rfl)
    · rw [if_neg k5]
      exact J _ (fun z => absurd z k5)
theorem m_clr {ov : Bool} : ∀ (r k n : Nat) (nw : Nat → Int32), k + r = 64 → r < n → (∀ f, f < k → nw f = 0) → ∃ N, f_BargeBasinModel_turn_L153 (bI ov) n (nI k) nw = some N ∧ ∀ f, f < 64 → N f = 0 := by
  intro r
  induction r with
  | zero =>
    intro k n nw h1 h2 h3
    obtain ⟨n, rfl⟩ : ∃ z, n = z + 1 := ⟨n - 1, by omega⟩
    have e : k = 64 := by omega
    subst e
    exact ⟨nw, by rw [f_BargeBasinModel_turn_L153, if_pos (show (64 : Int32) ≤ nI 64 by decide)], h3⟩
  | succ r ih =>
    intro k n nw h1 h2 h3
    obtain ⟨n, rfl⟩ : ∃ z, n = z + 1 := ⟨n - 1, by omega⟩
    rw [f_BargeBasinModel_turn_L153, if_neg (show ¬ (64 : Int32) ≤ nI k from nI_ge (b := 64) (by omega) (by decide)), ev_grdN _ (show k < 64 by omega) (by decide), ev_bnd, nI_1, nI_clamp (show k < 2 ^ 31 by omega), show vp_nar .boolean (0 : Int32) = 0 from nar_bI false]
    exact ih (k + 1) n _ (by omega) (by omega) (fun f hf => by
      by_cases z : f = k
      · rw [z, pk_us]
      · rw [pk_un z]; exact h3 f (by omega))
theorem wlK_skip {ov : Bool} {B : Bas} {f : Nat} : ∀ (d k : Nat), (∀ j, k ≤ j → j < k + d → bwl B j = false) → wlK ov B (k + d) f = wlK ov B k f
  | 0, _, _ => rfl
  | d + 1, k, q => by rw [← Nat.add_assoc, wlK_n (q (k + d) (by omega) (by omega)), wlK_skip d k (fun j h1 h2 => q j h1 (by omega))]
theorem m_turX {ov : Bool} {B : Bas} {y : Nat} {kwl : Nat → Int32} (h : basOk B) (hw : rfW B kwl) (hy : y < bh B) : ∀ (r x n : Nat) (nw : Nat → Int32), x + r = bw B → r < n → (∀ f, f < 64 → nw f = bI (wlK ov B (x + 8 * y) f)) → ∃ N, f_BargeBasinModel_turn_L184 (bI ov) (nI y) (nI (bw B)) (nI (bh B)) kwl n (nI x) nw = some N ∧ ∀ f, f < 64 → N f = bI (wlK ov B (bw B + 8 * y) f) := by
  have w8 := h.2.1
  have h8 := h.2.2.2.1
  intro r
  induction r with
  | zero =>
    intro x n nw h1 h2 h3
    obtain ⟨n, rfl⟩ : ∃ z, n = z + 1 := ⟨n - 1, by omega⟩
    have e : x = bw B := by omega
    subst e
    exact ⟨nw, by rw [f_BargeBasinModel_turn_L184, if_pos (nI_le (Nat.le_refl _) (by omega))], h3⟩
  | succ r ih =>
    intro x n nw h1 h2 h3
    obtain ⟨n, rfl⟩ : ∃ z, n = z + 1 := ⟨n - 1, by omega⟩
    have e₉ : nI x + (8 : Int32) * nI y = nI (x + 8 * y) := by rw [i8, nI_add]
    have sx : x + 1 + 8 * y = x + 8 * y + 1 := by omega
    rw [f_BargeBasinModel_turn_L184, if_neg (nI_ge (show x < bw B by omega) (by omega)), e₉]
    simp only [ev_grdN _ (show x + 8 * y < 64 by omega) (show 64 < 2 ^ 31 by decide), nI_clamp (show x + 8 * y < 2 ^ 31 by omega), ev_bnd, nI_1, hw _ (show x + 8 * y < 64 by omega)]
    cases e : bwl B (x + 8 * y) with
    | false =>
      rw [if_pos (show bI false = 0 by decide)]
      exact ih (x + 1) n nw (by omega) (by omega) (fun f hf => by rw [h3 f hf, sx, wlK_n e])
    | true =>
      have hi : (x + 8 * y) % 8 < bw B ∧ (x + 8 * y) / 8 < bh B := by omega
      have t := (tpl_xy (ov := ov) (W := 1) (H := 1) (show (x + 8 * y) % 8 + 1 ≤ bw B by omega) (show (x + 8 * y) / 8 + 1 ≤ bh B by omega) w8 h8 (by decide) (by decide)).2.2
      rw [if_neg (show ¬ bI true = 0 by decide), ev_b (x := f_BargeBasinModel_turned (nI (x + 8 * y)) 1 1 (nI (bw B)) (nI (bh B)) (bI ov)) _ (m_turned (W := 1) (H := 1) (show x + 8 * y < 64 by omega) (by omega) (by omega)), ev_grdN _ t (by decide), nI_clamp (show _ < 2 ^ 31 by omega), nar1]
      exact ih (x + 1) n _ (by omega) (by omega) (fun f hf => by
        rw [sx, wlK_s h e hi hf]
        by_cases z : f = tpl ov (bw B) (bh B) 1 1 (x + 8 * y)
        · rw [z, pk_us, decide_eq_true rfl, Bool.or_true]; rfl
        · rw [pk_un z, h3 f hf, decide_eq_false z, Bool.or_false])
theorem m_turY {ov : Bool} {B : Bas} {kwl : Nat → Int32} (h : basOk B) (hw : rfW B kwl) (ho : ∀ f, f < 64 → (bw B ≤ f % 8 ∨ bh B ≤ f / 8) → bwl B f = false) : ∀ (r y n : Nat) (nw : Nat → Int32), y + r = bh B → r < n → (∀ f, f < 64 → nw f = bI (wlK ov B (8 * y) f)) → ∃ N, f_BargeBasinModel_turn_L174 (bI ov) (nI (bw B)) (nI (bh B)) kwl n (nI y) nw = some N ∧ ∀ f, f < 64 → N f = bI (bwl (tuB ov B) f) := by
  have w8 := h.2.1
  have h8 := h.2.2.2.1
  intro r
  induction r with
  | zero =>
    intro y n nw h1 h2 h3
    obtain ⟨n, rfl⟩ : ∃ z, n = z + 1 := ⟨n - 1, by omega⟩
    have e : y = bh B := by omega
    subst e
    refine ⟨nw, by rw [f_BargeBasinModel_turn_L174, if_pos (nI_le (Nat.le_refl _) (by omega))], fun f hf => ?_⟩
    rw [h3 f hf, ← wlK_64 h hf, ← wlK_skip (64 - 8 * bh B) (8 * bh B) (fun j h4 h5 => ho j (by omega) (by omega)), show 8 * bh B + (64 - 8 * bh B) = 64 by omega]
  | succ r ih =>
    intro y n nw h1 h2 h3
    obtain ⟨n, rfl⟩ : ∃ z, n = z + 1 := ⟨n - 1, by omega⟩
    obtain ⟨N, n1, n2⟩ := m_turX h hw (show y < bh B by omega) (bw B) 0 jN nw (by omega) (by show bw B < 2000000; omega) (fun f hf => by rw [h3 f hf, Nat.zero_add])
    rw [f_BargeBasinModel_turn_L174, if_neg (nI_ge (show y < bh B by omega) (by omega)), ev_b (x := f_BargeBasinModel_turn_L184 (bI ov) (nI y) (nI (bw B)) (nI (bh B)) kwl jN 0 nw) _ n1, ev_bnd, nI_1]
    refine ih (y + 1) n N (by omega) (by omega) (fun f hf => ?_)
    rw [n2 f hf, ← wlK_skip (8 - bw B) (bw B + 8 * y) (fun j h4 h5 => ho j (by omega) (by omega)), show bw B + 8 * y + (8 - bw B) = 8 * (y + 1) by omega]
theorem m_cpW {ov : Bool} {nw : Nat → Int32} {p : Nat → Bool} (hn : ∀ f, f < 64 → nw f = bI (p f)) : ∀ (r k n : Nat) (wl : Nat → Int32), k + r = 64 → r < n → (∀ f, f < k → wl f = bI (p f)) → ∃ N, f_BargeBasinModel_turn_L246 (bI ov) nw n (nI k) wl = some N ∧ ∀ f, f < 64 → N f = bI (p f) := by
  intro r
  induction r with
  | zero =>
    intro k n wl h1 h2 h3
    obtain ⟨n, rfl⟩ : ∃ z, n = z + 1 := ⟨n - 1, by omega⟩
    have e : k = 64 := by omega
    subst e
    exact ⟨wl, by rw [f_BargeBasinModel_turn_L246, if_pos (show (64 : Int32) ≤ nI 64 by decide)], h3⟩
  | succ r ih =>
    intro k n wl h1 h2 h3
    obtain ⟨n, rfl⟩ : ∃ z, n = z + 1 := ⟨n - 1, by omega⟩
    rw [f_BargeBasinModel_turn_L246, if_neg (show ¬ (64 : Int32) ≤ nI k from nI_ge (b := 64) (by omega) (by decide)), ev_grdN _ (show k < 64 by omega) (by decide), ev_bnd, ev_grdN _ (show k < 64 by omega) (by decide), ev_bnd, nI_1, nI_clamp (show k < 2 ^ 31 by omega), hn k (by omega), nar_bI]
    exact ih (k + 1) n _ (by omega) (by omega) (fun f hf => by
      by_cases z : f = k
      · rw [z, pk_us]
      · rw [pk_un z]; exact h3 f (by omega))
theorem m_t297 {b0 : Nat} : ∀ (r y n : Nat) (lm : Nat → Int32), y + r = 8 → r < n → b0 ≤ y → (∀ z, b0 ≤ z → z < y → lm z < 0) → ∃ M, f_BargeBasinModel_turn_L297 n (nI y) lm = some M ∧ (∀ z, b0 ≤ z → z < 8 → M z < 0) := by
  intro r
  induction r with
  | zero =>
    intro y n lm h1 h2 h0 h3
    obtain ⟨n, rfl⟩ : ∃ z, n = z + 1 := ⟨n - 1, by omega⟩
    have e : y = 8 := by omega
    subst e
    exact ⟨lm, by rw [f_BargeBasinModel_turn_L297, if_pos (show (8 : Int32) ≤ nI 8 by decide)], h3⟩
  | succ r ih =>
    intro y n lm h1 h2 h0 h3
    obtain ⟨n, rfl⟩ : ∃ z, n = z + 1 := ⟨n - 1, by omega⟩
    rw [f_BargeBasinModel_turn_L297, if_neg (show ¬ (8 : Int32) ≤ nI y from nI_ge (b := 8) (by omega) (by decide)), ev_grdN _ (show y < 8 by omega) (by decide), ev_bnd, nI_1, nI_clamp (show y < 2 ^ 31 by omega)]
    exact ih (y + 1) n _ (by omega) (by omega) (by omega) (fun z h4 h5 => by
      by_cases e : z = y
      · rw [e, pk_us]; decide
      · rw [pk_un e]; exact h3 z h4 (by omega))
end
section
/-! turn of both sides. -/
theorem eq_turn {B : Bas} {P : Nat → Nat} {cw chh cn : Int32} {cwl ct : Int64} {ck cp cl cg ca cwd chg : Nat → Int32} {cs : Nat → Int64} {khas kw kh kn : Int32} {kwl kk kat ks ky kg : Nat → Int32} {lf ld lu um rm : Int32} {lm ub uf ut rb rf rt : Nat → Int32} {csort csize cnum lsort lmany lnum : Nat → Int32} (h : basOk B) (hP : stC B P) (hc : chX B P cw chh cn cwl ct ck cp cl cg ca cwd chg cs) (hr : rfX B P khas kw kh kn kwl kk kat ks ky kg) (hl : lgR B P lf ld lu lm um rm ub uf ut rb rf rt) (hn : lnR B csort csize cnum lsort lmany lnum) (ov : Bool) (st st2 th : Int32) (nw : Nat → Int32) :
    ∃ (csort₉ csize₉ cnum₉ : Nat → Int32) (cw₉ chh₉ : Int32) (cwl₉ ct₉ : Int64) (cp₉ cg₉ ca₉ cwd₉ chg₉ : Nat → Int32) (cs₉ : Nat → Int64) (kw₉ kh₉ : Int32) (lsort₉ lmany₉ lnum₉ kwl₉ kat₉ ky₉ kg₉ nw₉ : Nat → Int32),
      f_BargeBasin_turn (bI ov) st csort csize cnum cw chh cn cwl ct ck cp cl cg ca cwd chg cs ld lu = some (1, 0, csort₉, csize₉, cnum₉, cw₉, chh₉, cwl₉, ct₉, cp₉, cg₉, ca₉, cwd₉, chg₉, cs₉, 0, 0) ∧
      f_BargeBasinModel_turn (bI ov) st2 th khas kw kh kn um rm lsort lmany lnum kwl kk kat ks ky kg nw = some (1, 0, 0, kw₉, kh₉, 0, 0, lsort₉, lmany₉, lnum₉, kwl₉, kat₉, ky₉, kg₉, nw₉) ∧
      basOk (tuB ov B) ∧ stC (tuB ov B) (tuP ov B P) ∧ chX (tuB ov B) (tuP ov B P) cw₉ chh₉ cn cwl₉ ct₉ ck cp₉ cl cg₉ ca₉ cwd₉ chg₉ cs₉ ∧ rfX (tuB ov B) (tuP ov B P) khas kw₉ kh₉ kn kwl₉ kk kat₉ ks ky₉ kg₉ ∧ lgR (tuB ov B) (tuP ov B P) lf 0 0 lm 0 0 ub uf ut rb rf rt ∧ lnR (tuB ov B) csort₉ csize₉ cnum₉ lsort₉ lmany₉ lnum₉ := by
  have w8 := h.2.1
  have h8 := h.2.2.2.1
  have n12 := h.2.2.2.2.1
  have ho := hn.2.2.1
  have hB := tu_bas (ov := ov) h hP
  have hQ := tu_st (ov := ov) h hP
  have hO := tu_out (ov := ov) h ho
  have hL := lgR_forget hl hQ
  have cwe := hc.1
  have che := hc.2.1
  obtain ⟨r1, r2, r3, r4, r5, r6, r7, r8⟩ := hr
  subst r1; subst r2; subst r3; subst r4
  obtain ⟨p1, y1, g1, e1, e2, e3, e4⟩ := m_turL (ov := ov) (kk := kk) (ks := ks) h hP (fun b hb => (r6 b hb).1) (fun b hb => (r6 b hb).2.1) (bn B) 0 jN kat ky kg (by omega) (by show bn B < 2000000; omega) (fun c hc => by rw [if_neg (Nat.not_lt_zero c)]; exact r7 c hc) (fun c hc => by rw [if_neg (Nat.not_lt_zero c)]; exact (r6 c hc).2.2) (fun c hc e => by rw [if_neg (Nat.not_lt_zero c)]; exact r8 c hc e)
  obtain ⟨N0, n1, n2⟩ := m_clr (ov := ov) 64 0 jN nw (by omega) (by show 64 < 2000000; omega) (fun f hf => by omega)
  obtain ⟨N1, n3, n4⟩ := m_turY (ov := ov) h r5 ho (bh B) 0 jN N0 (by omega) (by show bh B < 2000000; omega) (fun f hf => by rw [n2 f hf, wlK_0]; rfl)
  obtain ⟨N2, n5, n6⟩ := m_cpW (ov := ov) n4 64 0 jN kwl (by omega) (by show 64 < 2000000; omega) (fun f hf => by omega)
  have rW : rfW (tuB ov B) N2 := n6
  cases ov with
  | true =>
    obtain ⟨W, t, p, g, x1, x2⟩ := s_mirror h hP hc ho
    obtain ⟨S, Z, N, z1, z2, z3⟩ := s_showWalls hB x2.2.2.2.1 csort csize cnum
    obtain ⟨S₉, Z₉, N₉, y1₉, y2, y3⟩ := m_linesByWalls hB rW lsort lmany lnum
    refine ⟨S, Z, N, cw, chh, W, t, p, g, ca, cwd, chg, cs, nI (bw B), nI (bh B), S₉, Z₉, N₉, N2, p1, y1, g1, N1, ?_, ?_, hB, hQ, x2, ⟨rfl, rfl, rfl, rfl, rW, e3, e2, e4⟩, hL, byw_ln hB hO z2 z3 y2 (fun z h1 h2 => by rw [y3 z h1]; exact hn.2.2.2 z h1 h2)⟩
    · unfold f_BargeBasin_turn f_BargeBasin_turn_J34
      rw [show f_BargeBasin_hasNoBasin cw = some 0 by rw [cwe]; exact noBas h, ev_b _ rfl, if_pos rfl, if_neg (show ¬ bI true = 0 by decide), ev_b _ x1, un4_ap, cwe, che, ev_b (x := f_Lines_showWalls csort csize cnum (nI (bw B)) (nI (bh B)) W) _ z1, un3_ap]
      rfl
    · unfold f_BargeBasinModel_turn f_BargeBasinModel_turn_J316
      rw [if_neg (show ¬ (1 : Int32) = 0 by decide), ev_b (x := f_BargeBasinModel_turn_L25 (bI true) (nI (bw B)) (nI (bh B)) (nI (bn B)) kk ks jN 0 kat ky kg) _ e1, un3_ap, ev_b (x := f_BargeBasinModel_turn_L153 (bI true) jN 0 nw) _ n1, ev_b (x := f_BargeBasinModel_turn_L174 (bI true) (nI (bw B)) (nI (bh B)) kwl jN 0 N0) _ n3, ev_b (x := f_BargeBasinModel_turn_L246 (bI true) N1 jN 0 kwl) _ n5, if_neg (show ¬ bI true = 0 by decide), ev_b (x := f_BargeBasinModel_linesByWalls (nI (bw B)) (nI (bh B)) lsort lmany lnum N2) _ y1₉, un3_ap]
      rfl
  | false =>
    obtain ⟨W, t, p, g, a, wd, hg, s, x1, x2⟩ := s_quarter h hP hc ho
    obtain ⟨S, Z, N, z1, z2, z3⟩ := s_showWalls hB x2.2.2.2.1 csort csize cnum
    obtain ⟨M, m1, m2⟩ := m_t297 (b0 := bw B) (8 - bw B) (bw B) jN lmany (by omega) (by show 8 - bw B < 2000000; omega) (Nat.le_refl _) (fun z h1 h2 => by omega)
    obtain ⟨S₉, Z₉, N₉, y1₉, y2, y3⟩ := m_linesByWalls hB rW lsort M lnum
    refine ⟨S, Z, N, chh, cw, W, t, p, g, a, wd, hg, s, nI (bh B), nI (bw B), S₉, Z₉, N₉, N2, p1, y1, g1, N1, ?_, ?_, hB, hQ, x2, ⟨rfl, rfl, rfl, rfl, rW, e3, e2, e4⟩, hL, byw_ln hB hO z2 z3 y2 (fun z h1 h2 => by rw [y3 z h1]; exact m2 z h1 h2)⟩
    · unfold f_BargeBasin_turn f_BargeBasin_turn_J34
      rw [show f_BargeBasin_hasNoBasin cw = some 0 by rw [cwe]; exact noBas h, ev_b _ rfl, if_pos rfl, if_pos (show bI false = 0 by decide), ev_b _ x1, un10_ap, cwe, che, ev_b (x := f_Lines_showWalls csort csize cnum (nI (bh B)) (nI (bw B)) W) _ z1, un3_ap]
      rfl
    · unfold f_BargeBasinModel_turn f_BargeBasinModel_turn_J316
      rw [if_neg (show ¬ (1 : Int32) = 0 by decide), ev_b (x := f_BargeBasinModel_turn_L25 (bI false) (nI (bw B)) (nI (bh B)) (nI (bn B)) kk ks jN 0 kat ky kg) _ e1, un3_ap, ev_b (x := f_BargeBasinModel_turn_L153 (bI false) jN 0 nw) _ n1, ev_b (x := f_BargeBasinModel_turn_L174 (bI false) (nI (bw B)) (nI (bh B)) kwl jN 0 N0) _ n3, ev_b (x := f_BargeBasinModel_turn_L246 (bI false) N1 jN 0 kwl) _ n5, if_pos (show bI false = 0 by decide), ev_b _ m1, ev_b (x := f_BargeBasinModel_linesByWalls (nI (bh B)) (nI (bw B)) lsort M lnum N2) _ y1₉, un3_ap]
      rfl
end
section
/-! make: one try on both sides. -/
theorem seed_eq (s : Int32) : (((1103515245 : Int64) * s.toInt64 + (12345 : Int64)) &&& (2147483647 : Int64)).toInt32 = ((1103515245 : Int32) * s + (12345 : Int32)) &&& (2147483647 : Int32) := by
  have e : s.toInt64.toInt32 = s := by simp
  rw [Int64.toInt32_and, Int64.toInt32_add, Int64.toInt32_mul, e]
  rfl
theorem seed_n (x : Int32) : ∃ m, m < 2 ^ 31 ∧ (x &&& (2147483647 : Int32)) = nI m := by
  refine ⟨(x &&& (2147483647 : Int32)).toBitVec.toNat, ?_, ?_⟩
  · rw [Int32.toBitVec_and, BitVec.toNat_and]
    have : (2147483647 : Int32).toBitVec.toNat = 2147483647 := by decide
    rw [this]
    exact Nat.lt_of_le_of_lt Nat.and_le_right (by decide)
  · apply Int32.toBitVec_inj.mp
    apply BitVec.eq_of_toNat_eq
    show _ = (BitVec.ofNat 32 _).toNat
    rw [BitVec.toNat_ofNat, Nat.mod_eq_of_lt (x &&& (2147483647 : Int32)).toBitVec.isLt]
theorem shr16 {m : Nat} (h : m < 2 ^ 31) : jishr (nI m) 16 = nI (m / 65536) := by
  unfold jishr
  exact pk_shrN h _ 16 (by decide)
theorem below_eq {n : Nat} (h1 : 1 ≤ n) (h8 : n ≤ 8) (s : Int32) : ∃ r t, r < n ∧ f_Draw_below (nI n) s = some (nI r, t) ∧ f_BargeBasinModel_below (nI n) s = some (nI r, t) := by
  unfold f_Draw_below f_BargeBasinModel_below
  rw [seed_eq]
  obtain ⟨m, hm, e⟩ := seed_n ((1103515245 : Int32) * s + (12345 : Int32))
  rw [e, ev_bnd, ev_bnd, shr16 hm]
  have le : (1 ≤ nI n) = (1 ≤ n) := nI_leE (a := 1) (by decide) (by omega)
  have ne : ¬ nI n = 0 := fun z => by
    have := (nI_eqL (j := 0) (show n < 2 ^ 31 by omega) (by decide)) ▸ (show nI n = nI 0 from z)
    omega
  rw [if_pos (by rw [le]; exact h1), ev_div _ ne, pk_rem (d := n) (show m / 65536 < 2 ^ 31 by omega) (by omega) (by omega)]
  exact ⟨m / 65536 % n, nI m, Nat.mod_lt _ (by omega), rfl, rfl⟩
/-- what is drawn -/
def kdV (v : Nat) : Nat := if v = 3 then 2 else if v = 4 then 3 else 1
def lnV (v r : Nat) : Nat := if v = 3 then 1 else if v = 4 then 2 else r + 2
def wyV (v : Nat) : Nat := if v = 1 ∨ v = 2 then 1 else 0
theorem bgV {v r : Nat} (hr : r < 3) : bgOk (kdV v) (lnV v r) (wyV v) := by
  unfold bgOk lenOk kdV lnV wyV
  by_cases a : v = 3
  · subst a; simp
  · by_cases c : v = 4
    · subst c; simp
    · simp only [a, c, if_false]
      by_cases d : v = 1 ∨ v = 2
      · simp only [d, if_true]; exact ⟨Or.inl ⟨Or.inl trivial, by omega, by omega⟩, by decide, fun _ => Or.inl trivial⟩
      · simp only [d, if_false]; exact ⟨Or.inl ⟨Or.inl trivial, by omega, by omega⟩, by decide, fun _ => Or.inl trivial⟩
theorem one_try {w hh : Nat} (w3 : 3 ≤ w) (w8 : w ≤ 8) (h3 : 3 ≤ hh) (h8 : hh ≤ 8) (sd : Int32) : ∃ k s yy x y sd₉, bgOk k s yy ∧ x < w ∧ y < hh ∧
    (∀ (cn : Int32) (cwl ct : Int64) (ck cp cl cg ca cwd chg : Nat → Int32) (cs : Nat → Int64), f_Draw_addsTo sd (nI w) (nI hh) cn cwl ct ck cp cl cg ca cwd chg cs = jb (f_Chart_fits (nI k) (nI x) (nI y) (nI s) (bI (decide (yy = 1))) (nI w) (nI hh) cwl ct) (fun r => if r = 0 then some (0, sd₉, cn, ct, ck, cp, cl, cg, ca, cwd, chg, cs) else jb (f_Chart_add (nI k) (8 * nI y + nI x) (nI s) (bI (decide (yy = 1))) cn ct ck cp cl cg ca cwd chg cs) (un10 (fun a b c d e f g h i j => some (1, sd₉, a, b, c, d, e, f, g, h, i, j))))) ∧
    (∀ (b t n : Nat) (kwl kwho kk ks ky : Nat → Int32), b < 12 → t < 20 → f_BargeBasinModel_draws_L11 (nI b) (nI w) (nI hh) kwl kwho (n + 1) (nI t) sd kk ks ky = jb (f_BargeBasinModel_againstAny (nI b) (nI x) (nI y) (nI w) (nI hh) kwl (upd kk b (nI k)) (upd ks b (nI s)) (upd ky b (nI yy)) kwho) (fun r => if r ≤ 0 then some (.inl (nI x, nI y, sd₉, upd kk b (nI k), upd ks b (nI s), upd ky b (nI yy))) else f_BargeBasinModel_draws_L11 (nI b) (nI w) (nI hh) kwl kwho n (nI (t + 1)) sd₉ (upd kk b (nI k)) (upd ks b (nI s)) (upd ky b (nI yy)))) := by
  obtain ⟨v, s1, hv, a1, b1⟩ := below_eq (n := 6) (by decide) (by decide) sd
  obtain ⟨r, s2, hr, a2, b2⟩ := below_eq (n := 3) (by decide) (by decide) s1
  obtain ⟨x, s3, hx, a3, b3⟩ := below_eq (n := w) (by omega) w8 (if v = 3 ∨ v = 4 then s1 else s2)
  obtain ⟨y, s4, hy, a4, b4⟩ := below_eq (n := hh) (by omega) h8 s3
  have a1₉ : f_Draw_below 6 sd = some (nI v, s1) := a1
  have b1₉ : f_BargeBasinModel_below 6 sd = some (nI v, s1) := b1
  have a2₉ : f_Draw_below 3 s1 = some (nI r, s2) := a2
  have b2₉ : f_BargeBasinModel_below 3 s1 = some (nI r, s2) := b2
  have e1 : (nI v = 1) = (v = 1) := nI_eqL (j := 1) (by omega) (by decide)
  have e2 : (nI v = 2) = (v = 2) := nI_eqL (j := 2) (by omega) (by decide)
  have e3 : (nI v = 3) = (v = 3) := nI_eqL (j := 3) (by omega) (by decide)
  have e4 : (nI v = 4) = (v = 4) := nI_eqL (j := 4) (by omega) (by decide)
  have r2 : nI r + 2 = nI (r + 2) := nI_add r 2
  have r2₉ : 2 + nI r = nI (r + 2) := by rw [Int32.add_comm]; exact r2
  refine ⟨kdV v, lnV v r, wyV v, x, y, s4, bgV hr, hx, hy, ?_, ?_⟩
  · intro cn cwl ct ck cp cl cg ca cwd chg cs
    unfold f_Draw_addsTo f_Draw_addsTo_J26 f_Draw_addsTo_J52 f_Draw_addsTo_J64 f_Draw_addsTo_J69 kdV lnV wyV
    rw [ev_b _ a1₉, un2_ap]
    simp only [e1, e2, e3, e4]
    by_cases q3 : v = 3
    · subst q3
      rw [if_pos (Or.inl rfl)] at a3
      simp only [if_true, if_false, show ¬ (3 : Nat) = 1 by decide, show ¬ (3 : Nat) = 2 by decide, or_self, show ¬ (2 : Int32) = 1 by decide, show ¬ (2 : Int32) = 3 by decide]
      rw [ev_b _ a3, un2_ap, ev_b _ a4, un2_ap]
      rfl
    · by_cases q4 : v = 4
      · subst q4
        rw [if_pos (Or.inr rfl)] at a3
        simp only [if_true, if_false, show ¬ (4 : Nat) = 1 by decide, show ¬ (4 : Nat) = 2 by decide, show ¬ (4 : Nat) = 3 by decide, or_self, show ¬ (3 : Int32) = 1 by decide]
        rw [ev_b _ a3, un2_ap, ev_b _ a4, un2_ap]
        rfl
      · rw [if_neg (by omega)] at a3
        by_cases q1 : v = 1
        · subst q1
          simp only [if_true, if_false, q3, q4, true_or]
          rw [ev_b _ a2₉, un2_ap, r2, ev_b _ a3, un2_ap, ev_b _ a4, un2_ap]
          rfl
        · by_cases q2 : v = 2
          · subst q2
            simp only [if_true, if_false, q3, q4, q1, or_true]
            rw [ev_b _ a2₉, un2_ap, r2, ev_b _ a3, un2_ap, ev_b _ a4, un2_ap]
            rfl
          · simp only [if_true, if_false, q3, q4, q1, q2, or_self]
            rw [ev_b _ a2₉, un2_ap, r2, ev_b _ a3, un2_ap, ev_b _ a4, un2_ap]
            rfl
  · intro b t n kwl kwho kk ks ky hb ht
    rw [f_BargeBasinModel_draws_L11, if_neg (show ¬ (20 : Int32) ≤ nI t from nI_ge (b := 20) ht (by decide))]
    unfold f_BargeBasinModel_draws_J48 f_BargeBasinModel_draws_J64 f_BargeBasinModel_draws_J69 f_BargeBasinModel_draws_J100 kdV lnV wyV
    rw [ev_b _ b1₉, un2_ap]
    simp only [ev_grdN _ hb (show 12 < 2 ^ 31 by decide), cl_nI hb, e1, e2, e3, e4, ev_bnd, nI_1]
    by_cases q3 : v = 3
    · subst q3
      rw [if_pos (Or.inl rfl)] at b3
      simp only [if_true, if_false, show ¬ (3 : Nat) = 1 by decide, show ¬ (3 : Nat) = 2 by decide, or_self]
      rw [ev_b _ b3, un2_ap, ev_b _ b4, un2_ap]
      rfl
    · by_cases q4 : v = 4
      · subst q4
        rw [if_pos (Or.inr rfl)] at b3
        simp only [if_true, if_false, show ¬ (4 : Nat) = 1 by decide, show ¬ (4 : Nat) = 2 by decide, show ¬ (4 : Nat) = 3 by decide, or_self]
        rw [ev_b _ b3, un2_ap, ev_b _ b4, un2_ap]
        rfl
      · rw [if_neg (by omega)] at b3
        by_cases q1 : v = 1
        · subst q1
          simp only [if_true, if_false, q3, q4, true_or]
          rw [ev_b _ b2₉, un2_ap, ev_b _ b3, un2_ap, ev_b _ b4, un2_ap, r2₉]
          rfl
        · by_cases q2 : v = 2
          · subst q2
            simp only [if_true, if_false, q3, q4, q1, or_true]
            rw [ev_b _ b2₉, un2_ap, ev_b _ b3, un2_ap, ev_b _ b4, un2_ap, r2₉]
            rfl
          · simp only [if_true, if_false, q3, q4, q1, q2, or_self]
            rw [ev_b _ b2₉, un2_ap, ev_b _ b3, un2_ap, ev_b _ b4, un2_ap, r2₉]
            rfl
end
section
/-! make of both sides. -/
theorem rfB_n {B : Bas} {kk ks ky : Nat → Int32} (h : rfB B kk ks ky) (x y z : Int32) : rfB B (upd kk (bn B) x) (upd ks (bn B) y) (upd ky (bn B) z) := by
  intro b hb
  rw [pk_un (by omega), pk_un (by omega), pk_un (by omega)]
  exact h b hb
/-- up to 20 tries on both sides -/
theorem tries {B : Bas} {P : Nat → Nat} {cwl ct : Int64} {ck cp cl cg ca cwd chg : Nat → Int32} {cs : Nat → Int64} {kwl kwho : Nat → Int32} {v2 v4 : Int32} (h : basOk B) (hP : stC B P) (hn : bn B < 12) (hc : chX B P (nI (bw B)) (nI (bh B)) (nI (bn B)) cwl ct ck cp cl cg ca cwd chg cs) (hwl : rfW B kwl) (ho : rfO B P kwho) :
    ∀ (r t n m : Nat) (sd : Int32) (kk ks ky : Nat → Int32), t + r = 20 → r + 1 < n → r < m → rfB B kk ks ky →
      (∃ sd₉ kk₉ ks₉ ky₉, f_BargeBasin_make_L64 v2 v4 (nI (bw B)) (nI (bh B)) cwl n 0 (nI t) (nI (bn B)) ct ck cp cl cg ca cwd chg cs sd = some (nI (bn B), ct, ck, cp, cl, cg, ca, cwd, chg, cs, sd₉) ∧ f_BargeBasinModel_draws_L11 (nI (bn B)) (nI (bw B)) (nI (bh B)) kwl kwho m (nI t) sd kk ks ky = some (.inr (sd₉, kk₉, ks₉, ky₉)) ∧ rfB B kk₉ ks₉ ky₉) ∨
      (∃ k s yy x y sd₉ ct₉ ck₉ cp₉ cl₉ cg₉ ca₉ cwd₉ chg₉ cs₉ kk₉ ks₉ ky₉, bgOk k s yy ∧ fitA B P (bW k s yy) (bH k s yy) x y = true ∧ f_BargeBasin_make_L64 v2 v4 (nI (bw B)) (nI (bh B)) cwl n 0 (nI t) (nI (bn B)) ct ck cp cl cg ca cwd chg cs sd = some (nI (bn B + 1), ct₉, ck₉, cp₉, cl₉, cg₉, ca₉, cwd₉, chg₉, cs₉, sd₉) ∧ chX (addB B k s yy (x + 8 * y)) (updN P (bn B) (x + 8 * y)) (nI (bw B)) (nI (bh B)) (nI (bn B + 1)) cwl ct₉ ck₉ cp₉ cl₉ cg₉ ca₉ cwd₉ chg₉ cs₉ ∧
        f_BargeBasinModel_draws_L11 (nI (bn B)) (nI (bw B)) (nI (bh B)) kwl kwho m (nI t) sd kk ks ky = some (.inl (nI x, nI y, sd₉, upd kk₉ (bn B) (nI k), upd ks₉ (bn B) (nI s), upd ky₉ (bn B) (nI yy))) ∧ rfB B kk₉ ks₉ ky₉) := by
  have w8 := h.2.1
  have h8 := h.2.2.2.1
  intro r
  induction r with
  | zero =>
    intro t n m sd kk ks ky h1 h2 h3 hr
    obtain ⟨n, rfl⟩ : ∃ z, n = z + 1 := ⟨n - 1, by omega⟩
    obtain ⟨m, rfl⟩ : ∃ z, m = z + 1 := ⟨m - 1, by omega⟩
    have e : t = 20 := by omega
    subst e
    refine Or.inl ⟨sd, kk, ks, ky, ?_, ?_, hr⟩
    · rw [f_BargeBasin_make_L64, if_pos (show (20 : Int32) ≤ nI 20 by decide)]
    · rw [f_BargeBasinModel_draws_L11, if_pos (show (20 : Int32) ≤ nI 20 by decide)]
  | succ r ih =>
    intro t n m sd kk ks ky h1 h2 h3 hr
    obtain ⟨n, rfl⟩ : ∃ z, n = z + 1 := ⟨n - 1, by omega⟩
    obtain ⟨m, rfl⟩ : ∃ z, m = z + 1 := ⟨m - 1, by omega⟩
    obtain ⟨k, s, yy, x, y, sd₉, bg, hx, hy, e1, e2⟩ := one_try h.1 w8 h.2.2.1 h8 sd
    obtain ⟨g1, g2, g3, g4, g5, g6, g7⟩ := bgOk_wh bg
    have c4 := hc.2.2.2.1
    have c5 := hc.2.2.2.2.1
    have sf := s_fits h c4 c5 bg hx hy
    have mw := m_wide (b := bn B) (kk := upd kk (bn B) (nI k)) (ks := upd ks (bn B) (nI s)) (ky := upd ky (bn B) (nI yy)) hn pk_us pk_us pk_us g1 g2
    have mt := m_tall (b := bn B) (kk := upd kk (bn B) (nI k)) (ks := upd ks (bn B) (nI s)) (ky := upd ky (bn B) (nI yy)) hn pk_us pk_us pk_us g1 g2
    obtain ⟨q, q1, q2, q3⟩ := m_againstAny h hwl ho mw mt g4 g6 hx hy
    have qz : (nI q ≤ 0) = (q ≤ 0) := nI_leE (b := 0) (by omega) (by decide)
    have e2₉ := e2 (bn B) t m kwl kwho kk ks ky hn (by omega)
    rw [ev_b _ q1] at e2₉
    have e1₉ := e1 (nI (bn B)) cwl ct ck cp cl cg ca cwd chg cs
    rw [ev_b _ sf] at e1₉
    rw [f_BargeBasin_make_L64, if_neg (show ¬ (20 : Int32) ≤ nI t from nI_ge (b := 20) (by omega) (by decide)), if_pos rfl, e2₉, e1₉]
    cases ef : fitA B P (bW k s yy) (bH k s yy) x y with
    | false =>
      have qn : ¬ q = 0 := fun z => by rw [q3.mp z] at ef; cases ef
      rw [if_pos (show bI false = 0 by decide), if_neg (by rw [qz]; omega), ev_b _ rfl, un12_ap, ev_bnd, nI_1]
      exact ih (t + 1) n m sd₉ _ _ _ (by omega) (by omega) (by omega) (rfB_n hr _ _ _)
    | true =>
      have ef₉ := ef
      unfold fitA at ef₉
      rw [Bool.and_eq_true, decide_eq_true_eq] at ef₉
      have px : (x + 8 * y) % 8 = x := by omega
      obtain ⟨ct₉, ck₉, cp₉, cl₉, cg₉, ca₉, cwd₉, chg₉, cs₉, e4, x4⟩ := s_add (p := x + 8 * y) h hc bg hn (by omega) (by rw [px]; have := ef₉.1.1; omega)
      have e8 : (8 : Int32) * nI y + nI x = nI (x + 8 * y) := by rw [i8, nI_add, Nat.add_comm]
      refine Or.inr ⟨k, s, yy, x, y, sd₉, ct₉, ck₉, cp₉, cl₉, cg₉, ca₉, cwd₉, chg₉, cs₉, kk, ks, ky, bg, ef, ?_, x4, ?_, hr⟩
      · obtain ⟨n, rfl⟩ : ∃ z, n = z + 1 := ⟨n - 1, by omega⟩
        rw [if_neg (show ¬ bI true = 0 by decide), e8, ev_b _ e4, un10_ap, ev_b _ rfl, un12_ap, ev_bnd, nI_1, f_BargeBasin_make_L64]
        by_cases l : (20 : Int32) ≤ nI (t + 1)
        · rw [if_pos l]
        · rw [if_neg l, if_neg (show ¬ (1 : Int32) = 0 by decide)]
      · rw [if_pos (by rw [qz, q3.mpr ef]; exact Nat.le_refl 0)]
/-- the basin without barges -/
def noB (B : Bas) : Bas := (bw B, bh B, 0, bK B, bS B, bY B, bG B, bwl B)
theorem noB_bas {B : Bas} (h : basOk B) : basOk (noB B) := ⟨h.1, h.2.1, h.2.2.1, h.2.2.2.1, Nat.zero_le _, fun b hb => absurd hb (Nat.not_lt_zero b), fun b hb => absurd hb (Nat.not_lt_zero b)⟩
theorem noB_st {B : Bas} : stC (noB B) (fun _ => 0) := ⟨⟨fun b hb => absurd hb (Nat.not_lt_zero b), fun b c f hb => absurd hb (Nat.not_lt_zero b), fun b f hb => absurd hb (Nat.not_lt_zero b)⟩, fun _ _ => rfl, fun b hb => absurd hb (Nat.not_lt_zero b)⟩
/-- the same basin but for its barges -/
def samW (B C : Bas) : Prop := bw C = bw B ∧ bh C = bh B ∧ bwl C = bwl B
theorem make_L {B0 : Bas} {many : Nat} {cwl : Int64} {khas : Int32} {kwl : Nat → Int32} (hm : many ≤ 12) :
    ∀ (r i n m : Nat) (B : Bas) (P : Nat → Nat) (ct : Int64) (ck cp cl cg ca cwd chg : Nat → Int32) (cs : Nat → Int64) (kk kat ks ky kg kwho khe : Nat → Int32) (sd : Int32), i + r = many → r < n → r < m → bn B ≤ i → samW B0 B → basOk B → stC B P → chX B P (nI (bw B0)) (nI (bh B0)) (nI (bn B)) cwl ct ck cp cl cg ca cwd chg cs → rfX B P khas (nI (bw B0)) (nI (bh B0)) (nI (bn B)) kwl kk kat ks ky kg →
      ∃ (B₉ : Bas) (Q : Nat → Nat) (ct₉ : Int64) (ck₉ cp₉ cl₉ cg₉ ca₉ cwd₉ chg₉ : Nat → Int32) (cs₉ : Nat → Int64) (kk₉ kat₉ ks₉ ky₉ kg₉ kwho₉ khe₉ : Nat → Int32) (sd₉ : Int32), f_BargeBasin_make_L52 (nI many) (nI (bw B0)) (nI (bh B0)) cwl n (nI i) (nI (bn B)) ct ck cp cl cg ca cwd chg cs sd = some (nI (bn B₉), ct₉, ck₉, cp₉, cl₉, cg₉, ca₉, cwd₉, chg₉, cs₉, sd₉) ∧
        f_BargeBasinModel_make_L55 (nI many) (nI (bw B0)) (nI (bh B0)) kwl m (nI i) (nI (bn B)) sd kk kat ks ky kg kwho khe = some (nI (bn B₉), sd₉, kk₉, kat₉, ks₉, ky₉, kg₉, kwho₉, khe₉) ∧ samW B0 B₉ ∧ basOk B₉ ∧ stC B₉ Q ∧ chX B₉ Q (nI (bw B0)) (nI (bh B0)) (nI (bn B₉)) cwl ct₉ ck₉ cp₉ cl₉ cg₉ ca₉ cwd₉ chg₉ cs₉ ∧ rfX B₉ Q khas (nI (bw B0)) (nI (bh B0)) (nI (bn B₉)) kwl kk₉ kat₉ ks₉ ky₉ kg₉ := by
  intro r
  induction r with
  | zero =>
    intro i n m B P ct ck cp cl cg ca cwd chg cs kk kat ks ky kg kwho khe sd h1 h2 h3 hb hs h hP hc hr
    obtain ⟨n, rfl⟩ : ∃ z, n = z + 1 := ⟨n - 1, by omega⟩
    obtain ⟨m, rfl⟩ : ∃ z, m = z + 1 := ⟨m - 1, by omega⟩
    have e : i = many := by omega
    subst e
    exact ⟨B, P, ct, ck, cp, cl, cg, ca, cwd, chg, cs, kk, kat, ks, ky, kg, kwho, khe, sd, by rw [f_BargeBasin_make_L52, if_pos (nI_le (Nat.le_refl _) (by omega))], by rw [f_BargeBasinModel_make_L55, if_pos (nI_le (Nat.le_refl _) (by omega))], hs, h, hP, hc, hr⟩
  | succ r ih =>
    intro i n m B P ct ck cp cl cg ca cwd chg cs kk kat ks ky kg kwho khe sd h1 h2 h3 hb hs h hP hc hr
    obtain ⟨n, rfl⟩ : ∃ z, n = z + 1 := ⟨n - 1, by omega⟩
    obtain ⟨m, rfl⟩ : ∃ z, m = z + 1 := ⟨m - 1, by omega⟩
    have n12 : bn B < 12 := by omega
    obtain ⟨s1, s2, s3⟩ := hs
    rw [← s1, ← s2] at hc hr ⊢
    obtain ⟨r1, r2, r3, r4, r5, r6, r7, r8⟩ := hr
    obtain ⟨kw1, kh1, l1, o1, p1⟩ := m_layAllB h hP.1.1 r6 r7 kwho khe
    rw [f_BargeBasin_make_L52, if_neg (nI_ge (show i < many by omega) (by omega)), f_BargeBasinModel_make_L55, if_neg (nI_ge (show i < many by omega) (by omega))]
    rcases tries (v2 := nI many) (v4 := nI i) h hP n12 hc r5 o1 20 0 jN jN sd kk ks ky (by omega) (by show 20 + 1 < 2000000; omega) (by show 20 < 2000000; omega) r6 with ⟨sd₉, kk₉, ks₉, ky₉, t1, t2, t3⟩ | ⟨k, s, yy, x, y, sd₉, ct₉, ck₉, cp₉, cl₉, cg₉, ca₉, cwd₉, chg₉, cs₉, kk₉, ks₉, ky₉, bg, ft, t1, t2, t3, t4⟩
    · have dr : f_BargeBasinModel_draws (nI (bw B)) (nI (bh B)) (nI (bn B)) sd kwl kk kat ks ky kg kwho khe = some (nI (bn B), sd₉, kk₉, kat, ks₉, ky₉, kg, kw1, kh1) := by
        unfold f_BargeBasinModel_draws
        rw [ev_b _ l1, un2_ap, ev_b (x := f_BargeBasinModel_draws_L11 (nI (bn B)) (nI (bw B)) (nI (bh B)) kwl kw1 jN 0 sd kk ks ky) _ t2]
        rfl
      rw [ev_b (x := f_BargeBasin_make_L64 (nI many) (nI i) (nI (bw B)) (nI (bh B)) cwl jN 0 0 (nI (bn B)) ct ck cp cl cg ca cwd chg cs sd) _ t1, un11_ap, ev_bnd, nI_1, ev_b _ dr, un9_ap, ev_bnd, s1, s2]
      rw [s1, s2] at hc
      rw [s1] at r2
      rw [s2] at r3
      exact ih (i + 1) n m B P ct ck cp cl cg ca cwd chg cs kk₉ kat ks₉ ky₉ kg kw1 kh1 sd₉ (by omega) (by omega) (by omega) (by omega) ⟨s1, s2, s3⟩ h hP hc ⟨r1, by rw [s1], by rw [s2], rfl, r5, t3, r7, r8⟩
    · have w8 := h.2.1
      have h8 := h.2.2.2.1
      have ft₉ := ft
      unfold fitA at ft₉
      rw [Bool.and_eq_true, decide_eq_true_eq] at ft₉
      obtain ⟨g1, g2, g3, g4, g5, g6, g7⟩ := bgOk_wh bg
      have p64 : x + 8 * y < 64 := by omega
      have hB₉ := add_bas h bg n12 p64
      have hQ := add_st h hP bg ft
      have rX := rfX_add (k := k) (s := s) (y := yy) (p := x + 8 * y) (show rfX B P khas (nI (bw B)) (nI (bh B)) (nI (bn B)) kwl kk₉ kat ks₉ ky₉ kg from ⟨r1, rfl, rfl, rfl, r5, t4, r7, r8⟩)
      have e8 : nI x + (8 : Int32) * nI y = nI (x + 8 * y) := by rw [i8, nI_add]
      have dr : f_BargeBasinModel_draws (nI (bw B)) (nI (bh B)) (nI (bn B)) sd kwl kk kat ks ky kg kwho khe = some (nI (bn B + 1), sd₉, upd kk₉ (bn B) (nI k), upd kat (bn B) (nI (x + 8 * y)), upd ks₉ (bn B) (nI s), upd ky₉ (bn B) (nI yy), upd kg (bn B) (nI (x + 8 * y)), kw1, kh1) := by
        unfold f_BargeBasinModel_draws
        rw [ev_b _ l1, un2_ap, ev_b (x := f_BargeBasinModel_draws_L11 (nI (bn B)) (nI (bw B)) (nI (bh B)) kwl kw1 jN 0 sd kk ks ky) _ t3]
        rw [jsel_l, un6_ap]
        simp only [ev_bnd, ev_grdN _ n12 (show 12 < 2 ^ 31 by decide), cl_nI n12, pk_us, nI_1, e8]
      rw [ev_b (x := f_BargeBasin_make_L64 (nI many) (nI i) (nI (bw B)) (nI (bh B)) cwl jN 0 0 (nI (bn B)) ct ck cp cl cg ca cwd chg cs sd) _ t1, un11_ap, ev_bnd, nI_1, ev_b _ dr, un9_ap, ev_bnd, s1, s2]
      rw [s1, s2] at t2 rX
      exact ih (i + 1) n m (addB B k s yy (x + 8 * y)) (updN P (bn B) (x + 8 * y)) ct₉ ck₉ cp₉ cl₉ cg₉ ca₉ cwd₉ chg₉ cs₉ _ _ _ _ _ kw1 kh1 sd₉ (by omega) (by omega) (by omega) (by show bn B + 1 ≤ i + 1; omega) ⟨s1, s2, s3⟩ hB₉ hQ t2 rX
theorem eq_make {B : Bas} {P : Nat → Nat} {cw chh cn : Int32} {cwl ct : Int64} {ck cp cl cg ca cwd chg : Nat → Int32} {cs : Nat → Int64} {khas kw kh kn : Int32} {kwl kk kat ks ky kg : Nat → Int32} {lf ld lu um rm : Int32} {lm ub uf ut rb rf rt : Nat → Int32} (h : basOk B) (hP : stC B P) (hc : chX B P cw chh cn cwl ct ck cp cl cg ca cwd chg cs) (hr : rfX B P khas kw kh kn kwl kk kat ks ky kg) (hl : lgR B P lf ld lu lm um rm ub uf ut rb rf rt) (v1 v2 st st2 th sd : Int32) (kwho khe : Nat → Int32) :
    ∃ (ans st₉ cn₉ : Int32) (ct₉ : Int64) (ck₉ cp₉ cl₉ cg₉ ca₉ cwd₉ chg₉ : Nat → Int32) (cs₉ : Nat → Int64) (ld₉ lu₉ kn₉ um₉ rm₉ sd₉ : Int32) (kk₉ kat₉ ks₉ ky₉ kg₉ kwho₉ khe₉ : Nat → Int32) (B₉ : Bas) (Q : Nat → Nat),
      f_BargeBasin_make v1 v2 st cw chh cn cwl ct ck cp cl cg ca cwd chg cs ld lu = some (ans, st₉, cn₉, ct₉, ck₉, cp₉, cl₉, cg₉, ca₉, cwd₉, chg₉, cs₉, ld₉, lu₉) ∧
      f_BargeBasinModel_make v1 v2 st2 th khas kw kh kn um rm sd kwl kk kat ks ky kg kwho khe = some (ans, st₉, 0, kn₉, um₉, rm₉, sd₉, kk₉, kat₉, ks₉, ky₉, kg₉, kwho₉, khe₉) ∧
      samW B B₉ ∧ basOk B₉ ∧ stC B₉ Q ∧ chX B₉ Q cw chh cn₉ cwl ct₉ ck₉ cp₉ cl₉ cg₉ ca₉ cwd₉ chg₉ cs₉ ∧ rfX B₉ Q khas kw kh kn₉ kwl kk₉ kat₉ ks₉ ky₉ kg₉ ∧ lgR B₉ Q lf ld₉ lu₉ lm um₉ rm₉ ub uf ut rb rf rt := by
  have hc0 := hc
  have hr0 := hr
  obtain ⟨c1, c2, c3, c4, c5, c6, c7, c8, c9⟩ := hc
  obtain ⟨r1, r2, r3, r4, r5, r6, r7, r8⟩ := hr
  subst c1; subst c2; subst c3; subst r1; subst r2; subst r3; subst r4
  unfold f_BargeBasin_make f_BargeBasinModel_make
  rw [ev_b _ (noBas h), if_pos rfl, if_neg (show ¬ (1 : Int32) = 0 by decide)]
  have bad : ∀ (X : Option (Int32 × (Int32) × (Int32) × (Int64) × (Nat → Int32) × (Nat → Int32) × (Nat → Int32) × (Nat → Int32) × (Nat → Int32) × (Nat → Int32) × (Nat → Int32) × (Nat → Int64) × (Int32) × (Int32))) (Y : Option (Int32 × (Int32) × (Int32) × (Int32) × (Int32) × (Int32) × (Int32) × (Nat → Int32) × (Nat → Int32) × (Nat → Int32) × (Nat → Int32) × (Nat → Int32) × (Nat → Int32) × (Nat → Int32))), X = some (-1, 2, nI (bn B), ct, ck, cp, cl, cg, ca, cwd, chg, cs, ld, lu) → Y = some (-1, 2, 0, nI (bn B), um, rm, sd, kk, kat, ks, ky, kg, kwho, khe) →
      ∃ (ans st₉ cn₉ : Int32) (ct₉ : Int64) (ck₉ cp₉ cl₉ cg₉ ca₉ cwd₉ chg₉ : Nat → Int32) (cs₉ : Nat → Int64) (ld₉ lu₉ kn₉ um₉ rm₉ sd₉ : Int32) (kk₉ kat₉ ks₉ ky₉ kg₉ kwho₉ khe₉ : Nat → Int32) (B₉ : Bas) (Q : Nat → Nat), X = some (ans, st₉, cn₉, ct₉, ck₉, cp₉, cl₉, cg₉, ca₉, cwd₉, chg₉, cs₉, ld₉, lu₉) ∧ Y = some (ans, st₉, 0, kn₉, um₉, rm₉, sd₉, kk₉, kat₉, ks₉, ky₉, kg₉, kwho₉, khe₉) ∧
      samW B B₉ ∧ basOk B₉ ∧ stC B₉ Q ∧ chX B₉ Q (nI (bw B)) (nI (bh B)) cn₉ cwl ct₉ ck₉ cp₉ cl₉ cg₉ ca₉ cwd₉ chg₉ cs₉ ∧ rfX B₉ Q 1 (nI (bw B)) (nI (bh B)) kn₉ kwl kk₉ kat₉ ks₉ ky₉ kg₉ ∧ lgR B₉ Q lf ld₉ lu₉ lm um₉ rm₉ ub uf ut rb rf rt := by
    intro X Y hX hY
    exact ⟨_, _, _, _, _, _, _, _, _, _, _, _, _, _, _, _, _, _, _, _, _, _, _, _, _, B, P, hX, hY, ⟨rfl, rfl, rfl⟩, h, hP, hc0, hr0, hl⟩
  by_cases q1 : v1 < 0
  · rw [if_pos q1, if_pos q1]; exact bad _ _ rfl rfl
  · rw [if_neg q1, if_neg q1]
    by_cases q2 : v2 < 0
    · rw [if_pos q2, if_pos q2]; exact bad _ _ rfl rfl
    · rw [if_neg q2, if_neg q2]
      by_cases q3 : v2 ≤ 12
      · rw [if_pos q3, if_pos q3]
        obtain ⟨many, hm, e⟩ : ∃ m, m ≤ 12 ∧ v2 = nI m := by
          have t0 : (0 : Int32).toInt = 0 := rfl
          have t12 : (12 : Int32).toInt = 12 := by decide
          rw [Int32.lt_iff_toInt_lt, t0] at q2
          rw [Int32.le_iff_toInt_le, t12] at q3
          refine ⟨v2.toInt.toNat, by omega, ?_⟩
          apply Int32.toInt_inj.mp
          rw [nI_toInt (by omega)]
          omega
        subst e
        obtain ⟨B₉, Q, ct₉, ck₉, cp₉, cl₉, cg₉, ca₉, cwd₉, chg₉, cs₉, kk₉, kat₉, ks₉, ky₉, kg₉, kwho₉, khe₉, sd₉, x1, x2, x3, x4, x5, x6, x7⟩ := make_L (B0 := B) (khas := 1) (kwl := kwl) (cwl := cwl) hm many 0 jN jN (noB B) (fun _ => 0) 0 ck cp cl cg ca cwd chg cs kk kat ks ky kg kwho khe v1 (by omega) (by show many < 2000000; omega) (by show many < 2000000; omega) (Nat.le_refl 0) ⟨rfl, rfl, rfl⟩ (noB_bas h) noB_st ⟨rfl, rfl, rfl, c4, fun f _ => by rw [tb_0]; rfl, fun b hb => absurd hb (Nat.not_lt_zero b), fun b hb => absurd hb (Nat.not_lt_zero b), fun b hb => absurd hb (Nat.not_lt_zero b), fun b hb => absurd hb (Nat.not_lt_zero b)⟩ ⟨rfl, rfl, rfl, rfl, r5, fun b hb => absurd hb (Nat.not_lt_zero b), fun b hb => absurd hb (Nat.not_lt_zero b), fun b hb => absurd hb (Nat.not_lt_zero b)⟩
        refine ⟨nI (bn B₉), 0, nI (bn B₉), ct₉, ck₉, cp₉, cl₉, cg₉, ca₉, cwd₉, chg₉, cs₉, 0, 0, nI (bn B₉), 0, 0, sd₉, kk₉, kat₉, ks₉, ky₉, kg₉, kwho₉, khe₉, B₉, Q, ?_, ?_, x3, x4, x5, x6, x7, lgR_forget hl x5⟩
        · show jb (f_BargeBasin_make_L52 (nI many) (nI (bw B)) (nI (bh B)) cwl jN 0 0 0 ck cp cl cg ca cwd chg cs v1) _ = _
          rw [ev_b (x := f_BargeBasin_make_L52 (nI many) (nI (bw B)) (nI (bh B)) cwl jN 0 0 0 ck cp cl cg ca cwd chg cs v1) _ x1, un11_ap]
          rfl
        · rw [ev_b (x := f_BargeBasinModel_make_L55 (nI many) (nI (bw B)) (nI (bh B)) kwl jN 0 0 v1 kk kat ks ky kg kwho khe) _ x2, un9_ap]
          rfl
      · rw [if_neg q3, if_neg q3]; exact bad _ _ rfl rfl
end
section
/-! Two basins that are the same; basins turned and mirrored. -/
abbrev BP : Type := Bas × (Nat → Nat)
def okX (X : BP) : Prop := basOk X.1 ∧ stC X.1 X.2 ∧ ∀ f, f < 64 → (bw X.1 ≤ f % 8 ∨ bh X.1 ≤ f / 8) → bwl X.1 f = false
def tuX (ov : Bool) (X : BP) : BP := (tuB ov X.1, tuP ov X.1 X.2)
theorem ok_tu {ov : Bool} {X : BP} (h : okX X) : okX (tuX ov X) := ⟨tu_bas h.1 h.2.1, tu_st h.1 h.2.1, tu_out h.1 h.2.2⟩
def likeA (X : BP) (b : Nat) (Y : BP) (c : Nat) : Prop := X.2 b = Y.2 c ∧ bK X.1 b = bK Y.1 c ∧ bS X.1 b = bS Y.1 c ∧ bY X.1 b = bY Y.1 c ∧ (bK X.1 b = 5 → bG X.1 b = bG Y.1 c)
def smX (X Y : BP) : Prop := bw X.1 = bw Y.1 ∧ bh X.1 = bh Y.1 ∧ bn X.1 = bn Y.1 ∧ (∀ f, f < 64 → bwl X.1 f = bwl Y.1 f) ∧ ∀ b, b < bn X.1 → ∃ c, c < bn Y.1 ∧ likeA X b Y c
theorem sm_refl (X : BP) : smX X X := ⟨rfl, rfl, rfl, fun _ _ => rfl, fun b hb => ⟨b, hb, rfl, rfl, rfl, rfl, fun _ => rfl⟩⟩
theorem sm_trans {X Y Z : BP} (h1 : smX X Y) (h2 : smX Y Z) : smX X Z := by
  obtain ⟨a1, a2, a3, a4, a5⟩ := h1
  obtain ⟨b1, b2, b3, b4, b5⟩ := h2
  refine ⟨a1.trans b1, a2.trans b2, a3.trans b3, fun f hf => (a4 f hf).trans (b4 f hf), fun b hb => ?_⟩
  obtain ⟨c, hc, l1, l2, l3, l4, l5⟩ := a5 b hb
  obtain ⟨d, hd, m1, m2, m3, m4, m5⟩ := b5 c hc
  exact ⟨d, hd, l1.trans m1, l2.trans m2, l3.trans m3, l4.trans m4, fun e => (l5 e).trans (m5 (by rw [← l2]; exact e))⟩
theorem pgh : ∀ (n : Nat) (g : Nat → Nat), (∀ b, b < n → g b < n) → (∀ b c, b < n → c < n → g b = g c → b = c) → ∀ c, c < n → ∃ b, b < n ∧ g b = c := by
  intro n
  induction n with
  | zero => intro g _ _ c hc; omega
  | succ n ih =>
    intro g h1 h2 c hc
    by_cases e : g n = c
    · exact ⟨n, by omega, e⟩
    · have gn := h1 n (by omega)
      have i := ih (fun b => if g b = n then g n else g b) (fun b hb => by
        show (if g b = n then g n else g b) < n
        have q1 := h1 b (by omega)
        by_cases z : g b = n
        · rw [if_pos z]
          by_cases y : g n = n
          · have := h2 b n (by omega) (by omega) (by rw [z, y]); omega
          · omega
        · rw [if_neg z]; omega) (fun b d hb hd z => by
        have z₉ : (if g b = n then g n else g b) = (if g d = n then g n else g d) := z
        by_cases y1 : g b = n
        · by_cases y2 : g d = n
          · exact h2 b d (by omega) (by omega) (by rw [y1, y2])
          · rw [if_pos y1, if_neg y2] at z₉
            have := h2 n d (by omega) (by omega) z₉; omega
        · by_cases y2 : g d = n
          · rw [if_neg y1, if_pos y2] at z₉
            have := h2 b n (by omega) (by omega) z₉; omega
          · rw [if_neg y1, if_neg y2] at z₉
            exact h2 b d (by omega) (by omega) z₉)
      by_cases cn : c = n
      · have gl : g n < n := by omega
        obtain ⟨b, hb, q⟩ := i (g n) gl
        have q₉ : (if g b = n then g n else g b) = g n := q
        by_cases z : g b = n
        · exact ⟨b, by omega, by rw [z, cn]⟩
        · rw [if_neg z] at q₉
          have := h2 b n (by omega) (by omega) q₉; omega
      · obtain ⟨b, hb, q⟩ := i c (by omega)
        have q₉ : (if g b = n then g n else g b) = c := q
        by_cases z : g b = n
        · rw [if_pos z] at q₉; exact absurd q₉ e
        · rw [if_neg z] at q₉; exact ⟨b, by omega, q₉⟩
theorem pl_inj {X : BP} (h : okX X) {b c : Nat} (hb : b < bn X.1) (hc : c < bn X.1) (e : X.2 b = X.2 c) : b = c := by
  have p := ins_64 h.1 h.2.1.1.1 hb
  refine h.2.1.1.2.1 b c (X.2 b) hb hc p (fb_own h.1 hb) ?_
  rw [e]
  exact fb_own h.1 hc
theorem sm_symm {X Y : BP} (hX : okX X) (h : smX X Y) : smX Y X := by
  obtain ⟨a1, a2, a3, a4, a5⟩ := h
  refine ⟨a1.symm, a2.symm, a3.symm, fun f hf => (a4 f hf).symm, fun c hc => ?_⟩
  have ex : ∃ g : Nat → Nat, ∀ b, b < bn X.1 → g b < bn Y.1 ∧ likeA X b Y (g b) :=
    ⟨fun b => if z : b < bn X.1 then Classical.choose (a5 b z) else 0, fun b hb => by
      simp only [dif_pos hb]
      exact Classical.choose_spec (a5 b hb)⟩
  obtain ⟨g, hg⟩ := ex
  obtain ⟨b, hb, e⟩ := pgh (bn X.1) g (fun b hb => by rw [a3]; exact (hg b hb).1) (fun b d hb hd e => by
    have l1 := (hg b hb).2.1
    have l2 := (hg d hd).2.1
    rw [e] at l1
    exact pl_inj hX hb hd (l1.trans l2.symm)) c (by rw [a3]; exact hc)
  obtain ⟨-, l1, l2, l3, l4, l5⟩ := hg b hb
  rw [e] at l1 l2 l3 l4 l5
  exact ⟨b, hb, l1.symm, l2.symm, l3.symm, l4.symm, fun z => (l5 (by rw [l2]; exact z)).symm⟩
theorem sm_tu {ov : Bool} {X Y : BP} (hX : okX X) (h : smX X Y) : smX (tuX ov X) (tuX ov Y) := by
  obtain ⟨a1, a2, a3, a4, a5⟩ := h
  refine ⟨?_, ?_, a3, fun f hf => ?_, fun b hb => ?_⟩
  · show nwT ov (bw X.1) (bh X.1) = nwT ov (bw Y.1) (bh Y.1); rw [a1, a2]
  · show nwT ov (bh X.1) (bw X.1) = nwT ov (bh Y.1) (bw Y.1); rw [a1, a2]
  · show (decide (f % 8 < nwT ov (bw X.1) (bh X.1)) && bwl X.1 (pre ov (bw X.1) (bh X.1) f)) = (decide (f % 8 < nwT ov (bw Y.1) (bh Y.1)) && bwl Y.1 (pre ov (bw Y.1) (bh Y.1) f))
    rw [a4 _ (pre_64 hf hX.1.2.1 hX.1.2.2.2.1 (by have := hX.1.1; omega) (by have := hX.1.2.2.1; omega)), a1, a2]
  · have hb₉ : b < bn X.1 := hb
    obtain ⟨c, hc, l1, l2, l3, l4, l5⟩ := a5 b hb₉
    have ew : xW X.1 b = xW Y.1 c := by unfold xW; rw [l2, l3, l4]
    have eh : xH X.1 b = xH Y.1 c := by unfold xH; rw [l2, l3, l4]
    refine ⟨c, hc, ?_, l2, l3, ?_, fun e => ?_⟩
    · show tuP ov X.1 X.2 b = tuP ov Y.1 Y.2 c
      rw [show tuP ov X.1 X.2 b = tpl ov (bw X.1) (bh X.1) (xW X.1 b) (xH X.1 b) (X.2 b) from if_pos hb₉, show tuP ov Y.1 Y.2 c = tpl ov (bw Y.1) (bh Y.1) (xW Y.1 c) (xH Y.1 c) (Y.2 c) from if_pos hc, a1, a2, ew, eh, l1]
    · show (if ov = true then bY X.1 b else if bK X.1 b = 1 ∨ bK X.1 b = 5 then 1 - bY X.1 b else bY X.1 b) = (if ov = true then bY Y.1 c else if bK Y.1 c = 1 ∨ bK Y.1 c = 5 then 1 - bY Y.1 c else bY Y.1 c)
      rw [l2, l4]
    · show tpl ov (bw X.1) (bh X.1) (xW X.1 b) (xH X.1 b) (bG X.1 b) = tpl ov (bw Y.1) (bh Y.1) (xW Y.1 c) (xH Y.1 c) (bG Y.1 c)
      rw [a1, a2, ew, eh, l5 e]
/-- coordinates of the images -/
def crd (w h W H p p₉ : Nat) (ov : Bool) : Prop := if ov = true then p₉ % 8 + p % 8 + W = w ∧ p₉ / 8 = p / 8 else p₉ % 8 + p / 8 + H = h ∧ p₉ / 8 = p % 8
theorem crd_t {w h W H p p₉ : Nat} : crd w h W H p p₉ true = (p₉ % 8 + p % 8 + W = w ∧ p₉ / 8 = p / 8) := if_pos rfl
theorem crd_f {w h W H p p₉ : Nat} : crd w h W H p p₉ false = (p₉ % 8 + p / 8 + H = h ∧ p₉ / 8 = p % 8) := if_neg (by decide)
theorem tu_crd {ov : Bool} {X : BP} {b : Nat} (h : okX X) (hb : b < bn X.1) : crd (bw X.1) (bh X.1) (xW X.1 b) (xH X.1 b) (X.2 b) ((tuX ov X).2 b) ov ∧ (bK X.1 b = 5 → crd (bw X.1) (bh X.1) (xW X.1 b) (xH X.1 b) (bG X.1 b) (bG (tuX ov X).1 b) ov) := by
  have w8 := h.1.2.1
  have h8 := h.1.2.2.2.1
  obtain ⟨a1, a2, a3, a4, a5, a6, a7, a8⟩ := basOk_wh h.1 hb
  have g : ∀ p, p % 8 + xW X.1 b ≤ bw X.1 → p / 8 + xH X.1 b ≤ bh X.1 → crd (bw X.1) (bh X.1) (xW X.1 b) (xH X.1 b) p (tpl ov (bw X.1) (bh X.1) (xW X.1 b) (xH X.1 b) p) ov := by
    intro p i1 i2
    obtain ⟨t1, t2, -⟩ := tpl_xy (ov := ov) i1 i2 w8 h8 a4 a6
    cases ov with
    | true => rw [crd_t, t1, t2, if_pos rfl, if_pos rfl]; omega
    | false => rw [crd_f, t1, t2, if_neg (by decide), if_neg (by decide)]; omega
  refine ⟨?_, fun e => ?_⟩
  · obtain ⟨i1, i2⟩ := h.2.1.1.1 b hb
    rw [show (tuX ov X).2 b = tpl ov (bw X.1) (bh X.1) (xW X.1 b) (xH X.1 b) (X.2 b) from if_pos hb]
    exact g _ i1 i2
  · obtain ⟨-, -, g3, g4⟩ := h.2.1.2.2 b hb e
    exact g _ g3 g4
theorem wl_m {X : BP} {x y : Nat} (hx : x < bw X.1) (w8 : bw X.1 ≤ 8) : bwl (tuX true X).1 (x + 8 * y) = bwl X.1 ((bw X.1 - 1 - x) + 8 * y) := by
  show (decide ((x + 8 * y) % 8 < nwT true (bw X.1) (bh X.1)) && bwl X.1 (pre true (bw X.1) (bh X.1) (x + 8 * y))) = _
  unfold nwT pre
  rw [if_pos rfl, if_pos rfl, decide_eq_true (by omega), Bool.true_and]
  congr 1
  omega
theorem wl_q {X : BP} {x y : Nat} (hx : x < bh X.1) (h8 : bh X.1 ≤ 8) (hy : y < 8) : bwl (tuX false X).1 (x + 8 * y) = bwl X.1 (y + 8 * (bh X.1 - 1 - x)) := by
  show (decide ((x + 8 * y) % 8 < nwT false (bw X.1) (bh X.1)) && bwl X.1 (pre false (bw X.1) (bh X.1) (x + 8 * y))) = _
  unfold nwT pre
  rw [if_neg (by decide), if_neg (by decide), decide_eq_true (by omega), Bool.true_and]
  congr 1
  omega
theorem sm_idx {X Y : BP} (hX : okX X) (hY : okX Y) (h1 : bw X.1 = bw Y.1) (h2 : bh X.1 = bh Y.1) (h3 : bn X.1 = bn Y.1) (h4 : ∀ x y, x < bw Y.1 → y < bh Y.1 → bwl X.1 (x + 8 * y) = bwl Y.1 (x + 8 * y)) (h5 : ∀ b, b < bn Y.1 → likeA X b Y b) : smX X Y := by
  refine ⟨h1, h2, h3, fun f hf => ?_, fun b hb => ⟨b, by rw [← h3]; exact hb, h5 b (by rw [← h3]; exact hb)⟩⟩
  by_cases q : bw Y.1 ≤ f % 8 ∨ bh Y.1 ≤ f / 8
  · rw [hX.2.2 f hf (by rw [h1, h2]; exact q), hY.2.2 f hf q]
  · have := h4 (f % 8) (f / 8) (by omega) (by omega)
    rw [Nat.mod_add_div] at this
    exact this
/-- Y is X turned by a quarter; mirrored -/
def qR (X Y : BP) : Prop := bw Y.1 = bh X.1 ∧ bh Y.1 = bw X.1 ∧ bn Y.1 = bn X.1 ∧ (∀ x y, x < bh X.1 → y < 8 → bwl Y.1 (x + 8 * y) = bwl X.1 (y + 8 * (bh X.1 - 1 - x))) ∧ ∀ b, b < bn X.1 → xW Y.1 b = xH X.1 b ∧ xH Y.1 b = xW X.1 b ∧ bK Y.1 b = bK X.1 b ∧ bS Y.1 b = bS X.1 b ∧ bY Y.1 b = (if bK X.1 b = 1 ∨ bK X.1 b = 5 then 1 - bY X.1 b else bY X.1 b) ∧ (Y.2 b % 8 + X.2 b / 8 + xH X.1 b = bh X.1 ∧ Y.2 b / 8 = X.2 b % 8) ∧ (bK X.1 b = 5 → bG Y.1 b % 8 + bG X.1 b / 8 + xH X.1 b = bh X.1 ∧ bG Y.1 b / 8 = bG X.1 b % 8)
def mR (X Y : BP) : Prop := bw Y.1 = bw X.1 ∧ bh Y.1 = bh X.1 ∧ bn Y.1 = bn X.1 ∧ (∀ x y, x < bw X.1 → bwl Y.1 (x + 8 * y) = bwl X.1 ((bw X.1 - 1 - x) + 8 * y)) ∧ ∀ b, b < bn X.1 → xW Y.1 b = xW X.1 b ∧ xH Y.1 b = xH X.1 b ∧ bK Y.1 b = bK X.1 b ∧ bS Y.1 b = bS X.1 b ∧ bY Y.1 b = bY X.1 b ∧ (Y.2 b % 8 + X.2 b % 8 + xW X.1 b = bw X.1 ∧ Y.2 b / 8 = X.2 b / 8) ∧ (bK X.1 b = 5 → bG Y.1 b % 8 + bG X.1 b % 8 + xW X.1 b = bw X.1 ∧ bG Y.1 b / 8 = bG X.1 b / 8)
theorem tu_qR {X : BP} (h : okX X) : qR X (tuX false X) := by
  refine ⟨rfl, rfl, rfl, fun x y hx hy => wl_q hx h.1.2.2.2.1 hy, fun b hb => ?_⟩
  obtain ⟨p1, g1⟩ := tu_crd (ov := false) h hb
  rw [crd_f] at p1
  obtain ⟨x1, x2⟩ := tu_x (ov := false) h.1 hb
  exact ⟨x1, x2, rfl, rfl, rfl, p1, fun e => by have := g1 e; rw [crd_f] at this; exact this⟩
theorem tu_mR {X : BP} (h : okX X) : mR X (tuX true X) := by
  refine ⟨rfl, rfl, rfl, fun x y hx => wl_m hx h.1.2.1, fun b hb => ?_⟩
  obtain ⟨p1, g1⟩ := tu_crd (ov := true) h hb
  rw [crd_t] at p1
  obtain ⟨x1, x2⟩ := tu_x (ov := true) h.1 hb
  exact ⟨x1, x2, rfl, rfl, rfl, p1, fun e => by have := g1 e; rw [crd_t] at this; exact this⟩
theorem mm_idR {X Y Z : BP} (h : okX X) (hZ : okX Z) (r1 : mR X Y) (r2 : mR Y Z) : smX Z X := by
  have w8 := h.1.2.1
  have h8 := h.1.2.2.2.1
  obtain ⟨a1, a2, a3, a4, a5⟩ := r1
  obtain ⟨b1, b2, b3, b4, b5⟩ := r2
  refine sm_idx hZ h (by rw [b1, a1]) (by rw [b2, a2]) (by rw [b3, a3]) (fun x y hx hy => ?_) (fun b hb => ?_)
  · rw [b4 x y (by rw [a1]; exact hx), a1, a4 _ y (by omega)]
    congr 1
    omega
  · obtain ⟨c1, c2, c3, c4, c5, c6, c7⟩ := a5 b hb
    obtain ⟨d1, d2, d3, d4, d5, d6, d7⟩ := b5 b (by rw [a3]; exact hb)
    refine ⟨by omega, by rw [d3, c3], by rw [d4, c4], by rw [d5, c5], fun e => ?_⟩
    have e₉ : bK X.1 b = 5 := by rw [d3, c3] at e; exact e
    have g1 := c7 e₉
    have g2 := d7 (by rw [c3]; exact e₉)
    omega
theorem mm_id {X : BP} (h : okX X) : smX (tuX true (tuX true X)) X := mm_idR h (ok_tu (ok_tu h)) (tu_mR h) (tu_mR (ok_tu h))
theorem yq (k y : Nat) (hy : y < 2) : (if k = 1 ∨ k = 5 then 1 - (if k = 1 ∨ k = 5 then 1 - y else y) else (if k = 1 ∨ k = 5 then 1 - y else y)) = y := by
  by_cases c : k = 1 ∨ k = 5
  · simp only [if_pos c]; omega
  · simp only [if_neg c]
/-- two quarters -/
def hR (X Z : BP) : Prop := bw Z.1 = bw X.1 ∧ bh Z.1 = bh X.1 ∧ bn Z.1 = bn X.1 ∧ (∀ x y, x < bw X.1 → y < bh X.1 → bwl Z.1 (x + 8 * y) = bwl X.1 ((bw X.1 - 1 - x) + 8 * (bh X.1 - 1 - y))) ∧ ∀ b, b < bn X.1 → xW Z.1 b = xW X.1 b ∧ xH Z.1 b = xH X.1 b ∧ bK Z.1 b = bK X.1 b ∧ bS Z.1 b = bS X.1 b ∧ bY Z.1 b = bY X.1 b ∧ (Z.2 b % 8 + X.2 b % 8 + xW X.1 b = bw X.1 ∧ Z.2 b / 8 + X.2 b / 8 + xH X.1 b = bh X.1) ∧ (bK X.1 b = 5 → bG Z.1 b % 8 + bG X.1 b % 8 + xW X.1 b = bw X.1 ∧ bG Z.1 b / 8 + bG X.1 b / 8 + xH X.1 b = bh X.1)
theorem qq_hR {X Y Z : BP} (h : okX X) (r1 : qR X Y) (r2 : qR Y Z) : hR X Z := by
  have w8 := h.1.2.1
  have h8 := h.1.2.2.2.1
  obtain ⟨a1, a2, a3, a4, a5⟩ := r1
  obtain ⟨b1, b2, b3, b4, b5⟩ := r2
  refine ⟨by rw [b1, a2], by rw [b2, a1], by rw [b3, a3], fun x y hx hy => ?_, fun b hb => ?_⟩
  · rw [b4 x y (by rw [a2]; exact hx) (by omega), a2, a4 y _ hy (by omega)]
  · obtain ⟨c1, c2, c3, c4, c5, c6, c7⟩ := a5 b hb
    obtain ⟨d1, d2, d3, d4, d5, d6, d7⟩ := b5 b (by rw [a3]; exact hb)
    have y2 := (h.1.2.2.2.2.2.1 b hb).2.1
    refine ⟨by rw [d1, c2], by rw [d2, c1], by rw [d3, c3], by rw [d4, c4], ?_, by omega, fun e => ?_⟩
    · rw [d5, c3, c5]; exact yq _ _ y2
    · have g1 := c7 e
      have g2 := d7 (by rw [c3]; exact e)
      omega
theorem hh_id {X Y Z : BP} (h : okX X) (hZ : okX Z) (r1 : hR X Y) (r2 : hR Y Z) : smX Z X := by
  have w8 := h.1.2.1
  have h8 := h.1.2.2.2.1
  obtain ⟨a1, a2, a3, a4, a5⟩ := r1
  obtain ⟨b1, b2, b3, b4, b5⟩ := r2
  refine sm_idx hZ h (by rw [b1, a1]) (by rw [b2, a2]) (by rw [b3, a3]) (fun x y hx hy => ?_) (fun b hb => ?_)
  · rw [b4 x y (by rw [a1]; exact hx) (by rw [a2]; exact hy), a1, a2, a4 _ _ (by omega) (by omega)]
    congr 1
    omega
  · obtain ⟨c1, c2, c3, c4, c5, c6, c7⟩ := a5 b hb
    obtain ⟨d1, d2, d3, d4, d5, d6, d7⟩ := b5 b (by rw [a3]; exact hb)
    refine ⟨by omega, by rw [d3, c3], by rw [d4, c4], by rw [d5, c5], fun e => ?_⟩
    have e₉ : bK X.1 b = 5 := by rw [d3, c3] at e; exact e
    have g1 := c7 e₉
    have g2 := d7 (by rw [c3]; exact e₉)
    omega
theorem q4_id {X : BP} (h : okX X) : smX (tuX false (tuX false (tuX false (tuX false X)))) X := by
  have h1 := ok_tu (ov := false) h
  have h2 := ok_tu (ov := false) h1
  have h3 := ok_tu (ov := false) h2
  exact hh_id h (ok_tu h3) (qq_hR h (tu_qR h) (tu_qR h1)) (qq_hR h2 (tu_qR h2) (tu_qR h3))
theorem qmq_mR {X Y Z V M : BP} (h : okX X) (hV : okX V) (hM : okX M) (r1 : qR X Y) (r2 : mR Y Z) (r3 : qR Z V) (r4 : mR X M) : smX V M := by
  have w8 := h.1.2.1
  have h8 := h.1.2.2.2.1
  obtain ⟨a1, a2, a3, a4, a5⟩ := r1
  obtain ⟨b1, b2, b3, b4, b5⟩ := r2
  obtain ⟨c1, c2, c3, c4, c5⟩ := r3
  obtain ⟨d1, d2, d3, d4, d5⟩ := r4
  refine sm_idx hV hM (by rw [c1, b2, a2, d1]) (by rw [c2, b1, a1, d2]) (by rw [c3, b3, a3, d3]) (fun x y hx hy => ?_) (fun b hb => ?_)
  · rw [d1] at hx
    rw [d2] at hy
    rw [c4 x y (by rw [b2, a2]; exact hx) (by omega), b2, a2, b4 y _ (by rw [a1]; exact hy), a1, a4 _ _ (by omega) (by omega), d4 x y hx]
    congr 1
    omega
  · rw [d3] at hb
    obtain ⟨e1, e2, e3, e4, e5, e6, e7⟩ := a5 b hb
    obtain ⟨f1, f2, f3, f4, f5, f6, f7⟩ := b5 b (by rw [a3]; exact hb)
    obtain ⟨g1, g2, g3, g4, g5, g6, g7⟩ := c5 b (by rw [b3, a3]; exact hb)
    obtain ⟨k1, k2, k3, k4, k5, k6, k7⟩ := d5 b hb
    have y2 := (h.1.2.2.2.2.2.1 b hb).2.1
    refine ⟨by omega, by rw [g3, f3, e3, k3], by rw [g4, f4, e4, k4], ?_, fun e => ?_⟩
    · rw [g5, f3, e3, f5, e5, k5]; exact yq _ _ y2
    · have e₉ : bK X.1 b = 5 := by rw [g3, f3, e3] at e; exact e
      have q1 := e7 e₉
      have q2 := f7 (by rw [e3]; exact e₉)
      have q3 := g7 (by rw [f3, e3]; exact e₉)
      have q4 := k7 e₉
      omega
theorem qmq_m {X : BP} (h : okX X) : smX (tuX false (tuX true (tuX false X))) (tuX true X) :=
  qmq_mR h (ok_tu (ok_tu (ok_tu h))) (ok_tu h) (tu_qR h) (tu_mR (ok_tu h)) (tu_qR (ok_tu (ok_tu h))) (tu_mR h)
end
section
/-! Orbits; isSame of the class. -/
def qI : Nat → BP → BP
  | 0, X => X
  | i + 1, X => tuX false (qI i X)
theorem ok_qI {X : BP} (h : okX X) : ∀ i, okX (qI i X)
  | 0 => h
  | i + 1 => ok_tu (ok_qI h i)
theorem sm_qI {X Y : BP} (hX : okX X) (h : smX X Y) : ∀ i, smX (qI i X) (qI i Y)
  | 0 => h
  | i + 1 => sm_tu (ok_qI hX i) (sm_qI hX h i)
theorem qI_add (X : BP) (j : Nat) : ∀ i, qI (i + j) X = qI i (qI j X)
  | 0 => by rw [Nat.zero_add]; rfl
  | i + 1 => by
    rw [show i + 1 + j = (i + j) + 1 by omega]
    show tuX false (qI (i + j) X) = tuX false (qI i (qI j X))
    rw [qI_add X j i]
theorem q4_sm {X : BP} (h : okX X) : smX (qI 4 X) X := q4_id h
theorem rf_i {X : BP} (h : okX X) : ∀ i, smX (qI i (tuX true (qI i (tuX true X)))) X
  | 0 => mm_id h
  | i + 1 => by
    have hm := ok_tu (ov := true) h
    have ho := ok_qI hm i
    have e : qI (i + 1) (tuX true (qI (i + 1) (tuX true X))) = qI i (tuX false (tuX true (tuX false (qI i (tuX true X))))) := qI_add _ 1 i
    rw [e]
    exact sm_trans (sm_qI (ok_tu (ok_tu (ok_tu ho))) (qmq_m ho) i) (rf_i h i)
def orb (X Y : BP) : Prop := ∃ i, i < 4 ∧ (smX (qI i X) Y ∨ smX (qI i (tuX true X)) Y)
theorem orb_symm {X Y : BP} (hX : okX X) (hY : okX Y) (h : orb X Y) : orb Y X := by
  obtain ⟨i, hi, q | q⟩ := h
  · have s := sm_symm (ok_qI hX i) q
    by_cases z : i = 0
    · subst z; exact ⟨0, by decide, Or.inl s⟩
    · refine ⟨4 - i, by omega, Or.inl ?_⟩
      refine sm_trans (sm_qI hY s (4 - i)) ?_
      rw [← qI_add, show 4 - i + i = 4 by omega]
      exact q4_sm hX
  · have hm := ok_tu (ov := true) hX
    have s := sm_symm (ok_qI hm i) q
    exact ⟨i, hi, Or.inr (sm_trans (sm_qI (ok_tu hY) (sm_tu hY s) i) (rf_i hX i))⟩
theorem like_fb {X Y : BP} {b c f : Nat} (l : likeA X b Y c) : fbA X.1 X.2 b f = fbA Y.1 Y.2 c f := by
  obtain ⟨l1, l2, l3, l4, -⟩ := l
  unfold fbA xW xH
  rw [l1, l2, l3, l4]
theorem sm_tk1 {X Y : BP} {f : Nat} (h : smX X Y) (e : tkA X.1 X.2 f = true) : tkA Y.1 Y.2 f = true := by
  obtain ⟨b, hb, q⟩ := tkA_t.mp e
  obtain ⟨c, hc, l⟩ := h.2.2.2.2 b hb
  exact tkA_t.mpr ⟨c, hc, by rw [← like_fb l]; exact q⟩
theorem sm_tk {X Y : BP} {f : Nat} (hX : okX X) (h : smX X Y) : tkA X.1 X.2 f = tkA Y.1 Y.2 f := by
  rw [Bool.eq_iff_iff]
  exact ⟨sm_tk1 h, sm_tk1 (sm_symm hX h)⟩
theorem s_firstAt {B : Bas} {P : Nat → Nat} {p : Nat} {kk ka kw kh kp : Nat → Int32} {ks : Nat → Int64} (h : basOk B) (hs : stOk B P) (hc : chB B kk ka kw kh ks) (hp : chP B P kp) (hp6 : p < 64) : f_Chart_firstIn (jlshl 1 (nI p)) (-1) (nI (bn B)) kp ks = some (oI (whoN (fbA B P) (bn B) p)) := by
  obtain ⟨o, e1, f1⟩ := s_firstIn (x := jlshl 1 (nI p)) (but := none) h hs.1 hc hp (fun b hb => by cases hb)
  have f2 : fstI (bn B) (fun b => fbA B P b p) o := by
    have : (fun b => decide (¬ (none : Option Nat) = some b) && anyF (fun f => fbA B P b f && tb (jlshl 1 (nI p)) f)) = (fun b => fbA B P b p) := by
      funext b
      rw [Bool.eq_iff_iff, Bool.and_eq_true, anyF_t]
      constructor
      · rintro ⟨-, f, hf, q⟩
        rw [tb_one hp6, Bool.and_eq_true, decide_eq_true_eq] at q
        rw [← q.2]; exact q.1
      · intro q
        exact ⟨by simp, p, hp6, by rw [tb_one hp6, q]; simp⟩
    rw [this] at f1
    exact f1
  rw [fst_u f2 (fst_who hs.2.1 hp6)] at e1
  exact e1
theorem bI_eq {a b : Bool} : (bI a = bI b) = (a = b) := by
  apply propext
  cases a <;> cases b <;> simp [bI]
theorem s_isTwin {X Y : BP} {b c : Nat} {cw chh cn : Int32} {cwl ct : Int64} {ck cp cl cg ca cwd chg : Nat → Int32} {cs : Nat → Int64} {dw dh dn : Int32} {dwl dt : Int64} {dk dp dl dg da dwd dhg : Nat → Int32} {ds : Nat → Int64} (hX : okX X) (hY : okX Y) (x : chX X.1 X.2 cw chh cn cwl ct ck cp cl cg ca cwd chg cs) (y : chX Y.1 Y.2 dw dh dn dwl dt dk dp dl dg da dwd dhg ds) (hb : b < bn X.1) (hc : c < bn Y.1) :
    ∃ t, f_Chart_isTwin (nI b) (nI c) ck cp cl cg ca dk dp dl dg da = some (bI t) ∧ (t = true ↔ likeA X b Y c) := by
  obtain ⟨a1, a2, a3, a4, a5, a6, a7, a8⟩ := basOk_wh hX.1 hb
  obtain ⟨b1, b2, b3, b4, b5, b6, b7, b8⟩ := basOk_wh hY.1 hc
  obtain ⟨x1, x2, x3, x4, x5, x6, x7, x8, x9⟩ := x
  obtain ⟨y1, y2, y3, y4, y5, y6, y7, y8, y9⟩ := y
  have p1 := ins_64 hX.1 hX.2.1.1.1 hb
  have p2 := ins_64 hY.1 hY.2.1.1.1 hc
  obtain ⟨l1, -, -⟩ := hX.1.2.2.2.2.2.1 b hb
  obtain ⟨l2, -, -⟩ := hY.1.2.2.2.2.2.1 c hc
  have s1 : bS X.1 b < 5 := by unfold lenOk at l1; omega
  have s2 : bS Y.1 c < 5 := by unfold lenOk at l2; omega
  unfold f_Chart_isTwin
  simp only [ev_grdN _ a1 (show 12 < 2 ^ 31 by decide), ev_grdN _ b1 (show 12 < 2 ^ 31 by decide), cl_nI a1, cl_nI b1, x7 b hb, y7 c hc, (x6 b hb).1, (y6 c hc).1, x8 b hb, y8 c hc, (x6 b hb).2.1, (y6 c hc).2.1]
  have e1 : (nI (X.2 b) = nI (Y.2 c)) = (X.2 b = Y.2 c) := nI_eqL (by omega) (by omega)
  have e2 : (nI (bK X.1 b) = nI (bK Y.1 c)) = (bK X.1 b = bK Y.1 c) := nI_eqL (by omega) (by omega)
  have e3 : (nI (bS X.1 b) = nI (bS Y.1 c)) = (bS X.1 b = bS Y.1 c) := nI_eqL (by omega) (by omega)
  have e4 : (bI (decide (bY X.1 b = 1)) = bI (decide (bY Y.1 c = 1))) = (bY X.1 b = bY Y.1 c) := by
    rw [bI_eq, decide_eq_decide]
    exact propext ⟨fun z => by omega, fun z => by rw [z]⟩
  have e5 : (nI (bK X.1 b) = 5) = (bK X.1 b = 5) := nI_eqL (j := 5) (by omega) (by decide)
  simp only [e1, e2, e3, e4, e5]
  by_cases q1 : X.2 b = Y.2 c
  · rw [if_pos q1]
    by_cases q2 : bK X.1 b = bK Y.1 c
    · rw [if_pos q2]
      by_cases q3 : bS X.1 b = bS Y.1 c
      · rw [if_pos q3]
        by_cases q4 : bY X.1 b = bY Y.1 c
        · rw [if_pos q4]
          by_cases q5 : bK X.1 b = 5
          · have g1 := hX.1.2.2.2.2.2.2 b hb q5
            have g2 := hY.1.2.2.2.2.2.2 c hc (by rw [← q2]; exact q5)
            have e6 : (nI (bG X.1 b) = nI (bG Y.1 c)) = (bG X.1 b = bG Y.1 c) := nI_eqL (by omega) (by omega)
            rw [if_pos q5, x9 b hb q5, y9 c hc (by rw [← q2]; exact q5)]
            simp only [e6]
            by_cases q6 : bG X.1 b = bG Y.1 c
            · rw [if_pos q6]; exact ⟨true, rfl, fun _ => ⟨q1, q2, q3, q4, fun _ => q6⟩, fun _ => rfl⟩
            · rw [if_neg q6]; exact ⟨false, rfl, fun z => by (cases z), fun l => absurd (l.2.2.2.2 q5) q6⟩
          · rw [if_neg q5]; exact ⟨true, rfl, fun _ => ⟨q1, q2, q3, q4, fun z => absurd z q5⟩, fun _ => rfl⟩
        · rw [if_neg q4]; exact ⟨false, rfl, fun z => by (cases z), fun l => absurd l.2.2.2.1 q4⟩
      · rw [if_neg q3]; exact ⟨false, rfl, fun z => by (cases z), fun l => absurd l.2.2.1 q3⟩
    · rw [if_neg q2]; exact ⟨false, rfl, fun z => by (cases z), fun l => absurd l.2.1 q2⟩
  · rw [if_neg q1]; exact ⟨false, rfl, fun z => by (cases z), fun l => absurd l.1 q1⟩
theorem s_isSame {X Y : BP} {cw chh cn : Int32} {cwl ct : Int64} {ck cp cl cg ca cwd chg : Nat → Int32} {cs : Nat → Int64} {dw dh dn : Int32} {dwl dt : Int64} {dk dp dl dg da dwd dhg : Nat → Int32} {ds : Nat → Int64} (hX : okX X) (hY : okX Y) (x : chX X.1 X.2 cw chh cn cwl ct ck cp cl cg ca cwd chg cs) (y : chX Y.1 Y.2 dw dh dn dwl dt dk dp dl dg da dwd dhg ds) :
    ∃ t, f_Chart_isSame cw chh cn cwl ct ck cp cl cg ca dw dh dn dwl dt dk dp dl dg da ds = some (bI t) ∧ (t = true ↔ smX X Y) := by
  have x0 := x
  have y0 := y
  obtain ⟨x1, x2, x3, x4, x5, x6, x7, x8, x9⟩ := x
  obtain ⟨y1, y2, y3, y4, y5, y6, y7, y8, y9⟩ := y
  subst x1; subst x2; subst x3; subst y1; subst y2; subst y3
  have n12 := hX.1.2.2.2.2.1
  have m12 := hY.1.2.2.2.2.1
  have wX := hX.1.2.1
  have wY := hY.1.2.1
  have vX := hX.1.2.2.2.1
  have vY := hY.1.2.2.2.1
  have e1 : (nI (bw X.1) = nI (bw Y.1)) = (bw X.1 = bw Y.1) := nI_eqL (by omega) (by omega)
  have e2 : (nI (bh X.1) = nI (bh Y.1)) = (bh X.1 = bh Y.1) := nI_eqL (by omega) (by omega)
  have e3 : (nI (bn X.1) = nI (bn Y.1)) = (bn X.1 = bn Y.1) := nI_eqL (by omega) (by omega)
  have loop : ∀ (r b n : Nat), b + r = bn X.1 → r < n → ∃ t, f_Chart_isSame_L61 (nI (bn X.1)) ck cp cl cg ca (nI (bn Y.1)) dk dp dl dg da ds n (nI b) = some (if t = true then .inr () else .inl ()) ∧ (t = true ↔ ∀ c, b ≤ c → c < bn X.1 → ∃ d, d < bn Y.1 ∧ likeA X c Y d) := by
    intro r
    induction r with
    | zero =>
      intro b n h1 h2
      obtain ⟨n, rfl⟩ : ∃ z, n = z + 1 := ⟨n - 1, by omega⟩
      have e : b = bn X.1 := by omega
      subst e
      exact ⟨true, by rw [f_Chart_isSame_L61, if_pos (nI_le (Nat.le_refl _) (by omega))]; rfl, fun _ c h3 h4 => by omega, fun _ => rfl⟩
    | succ r ih =>
      intro b n h1 h2
      obtain ⟨n, rfl⟩ : ∃ z, n = z + 1 := ⟨n - 1, by omega⟩
      have hb : b < bn X.1 := by omega
      have p1 := ins_64 hX.1 hX.2.1.1.1 hb
      have a1 : b < 12 := by omega
      rw [f_Chart_isSame_L61, if_neg (nI_ge hb (by omega)), ev_grdN _ a1 (by decide), cl_nI a1, x7 b hb, ev_b _ (s_firstAt hY.1 hY.2.1.1 y6 y7 p1)]
      have key : ∀ d, d < bn Y.1 → likeA X b Y d → whoN (fbA Y.1 Y.2) (bn Y.1) (X.2 b) = some d := fun d hd l => (whoN_some hY.2.1.1.2.1 p1).mpr ⟨hd, by rw [← like_fb l]; exact fb_own hX.1 hb⟩
      cases eo : whoN (fbA Y.1 Y.2) (bn Y.1) (X.2 b) with
      | none =>
        rw [if_pos (show oI none < 0 by decide)]
        refine ⟨false, rfl, fun z => by (cases z), fun z => ?_⟩
        obtain ⟨d, hd, l⟩ := z b (Nat.le_refl _) hb
        rw [key d hd l] at eo; cases eo
      | some c =>
        have hc := (whoN_mem eo).1
        obtain ⟨t, t1, t2⟩ := s_isTwin hX hY x0 y0 hb hc
        rw [show oI (some c) = nI c from rfl, if_neg (nI_nn (by omega)), ev_b _ t1]
        cases t with
        | false =>
          rw [if_pos (show bI false = 0 by decide)]
          refine ⟨false, rfl, fun z => by (cases z), fun z => ?_⟩
          obtain ⟨d, hd, l⟩ := z b (Nat.le_refl _) hb
          have k := key d hd l
          rw [eo] at k
          cases k
          exact t2.mpr l
        | true =>
          rw [if_neg (show ¬ bI true = 0 by decide), ev_bnd, nI_1]
          obtain ⟨u, u1, u2⟩ := ih (b + 1) n (by omega) (by omega)
          refine ⟨u, u1, u2.trans ⟨fun z d h3 h4 => ?_, fun z d h3 h4 => z d (by omega) h4⟩⟩
          by_cases e : d = b
          · subst e; exact ⟨c, hc, t2.mp rfl⟩
          · exact z d (by omega) h4
  unfold f_Chart_isSame
  simp only [e1, e2, e3, cmpE]
  by_cases q1 : bw X.1 = bw Y.1
  · rw [if_pos q1]
    by_cases q2 : bh X.1 = bh Y.1
    · rw [if_pos q2]
      by_cases q3 : cwl = dwl
      · rw [if_pos q3]
        by_cases q4 : ct = dt
        · rw [if_pos q4]
          by_cases q5 : bn X.1 = bn Y.1
          · rw [if_pos q5]
            obtain ⟨t, t1, t2⟩ := loop (bn X.1) 0 jN (by omega) (by show bn X.1 < 2000000; omega)
            rw [ev_b (x := f_Chart_isSame_L61 (nI (bn X.1)) ck cp cl cg ca (nI (bn Y.1)) dk dp dl dg da ds jN 0) _ t1]
            refine ⟨t, by cases t <;> rfl, t2.trans ⟨fun z => ⟨q1, q2, q5, fun f hf => by rw [← x4 f hf, ← y4 f hf, q3], fun b hb => z b (Nat.zero_le _) hb⟩, fun z b _ hb => z.2.2.2.2 b hb⟩⟩
          · rw [if_neg q5]; exact ⟨false, rfl, fun z => by (cases z), fun z => absurd z.2.2.1 q5⟩
        · rw [if_neg q4]; exact ⟨false, rfl, fun z => by (cases z), fun z => absurd (tb_ext fun f hf => by rw [x5 f hf, y5 f hf, sm_tk hX z]) q4⟩
      · rw [if_neg q3]; exact ⟨false, rfl, fun z => by (cases z), fun z => absurd (tb_ext fun f hf => by rw [x4 f hf, y4 f hf, z.2.2.2.1 f hf]) q3⟩
    · rw [if_neg q2]; exact ⟨false, rfl, fun z => by (cases z), fun z => absurd z.2.1 q2⟩
  · rw [if_neg q1]; exact ⟨false, rfl, fun z => by (cases z), fun z => absurd z.1 q1⟩
end
section
/-! isSameTurned of the class. -/
theorem bn_qI (X : BP) : ∀ i, bn (qI i X).1 = bn X.1
  | 0 => rfl
  | i + 1 => bn_qI X i
theorem s_stL9 {X C : BP} {v2 cn : Int32} {ck cl : Nat → Int32} {dw dh dn : Int32} {dwl dt : Int64} {dk dp dl dg da dwd dhg : Nat → Int32} {ds : Nat → Int64} (hX : okX X) (hC : okX C) (y : chX C.1 C.2 dw dh dn dwl dt dk dp dl dg da dwd dhg ds) :
    ∀ (r i n : Nat) (w h : Int32) (wl t : Int64) (p g a wd hg : Nat → Int32) (s : Nat → Int64), i + r = 4 → r < n → chX (qI i X).1 (qI i X).2 w h cn wl t ck p cl g a wd hg s →
      (∃ S, f_Chart_isSameTurned_L9 v2 cn ck cl dw dh dn dwl dt dk dp dl dg da ds n (nI i) w h wl t p g a wd hg s = some (.inl S) ∧ ∃ j, i < j ∧ j ≤ 4 ∧ smX (qI j X) C) ∨
      (∃ w₉ h₉ wl₉ t₉ p₉ g₉ a₉ wd₉ hg₉ s₉, f_Chart_isSameTurned_L9 v2 cn ck cl dw dh dn dwl dt dk dp dl dg da ds n (nI i) w h wl t p g a wd hg s = some (.inr (w₉, h₉, wl₉, t₉, p₉, g₉, a₉, wd₉, hg₉, s₉)) ∧ chX (qI 4 X).1 (qI 4 X).2 w₉ h₉ cn wl₉ t₉ ck p₉ cl g₉ a₉ wd₉ hg₉ s₉ ∧ ∀ j, i < j → j ≤ 4 → ¬ smX (qI j X) C) := by
  intro r
  induction r with
  | zero =>
    intro i n w h wl t p g a wd hg s h1 h2 x
    obtain ⟨n, rfl⟩ : ∃ z, n = z + 1 := ⟨n - 1, by omega⟩
    have e : i = 4 := by omega
    subst e
    exact Or.inr ⟨w, h, wl, t, p, g, a, wd, hg, s, by rw [f_Chart_isSameTurned_L9, if_pos (show (4 : Int32) ≤ nI 4 by decide)], x, fun j h3 h4 => by omega⟩
  | succ r ih =>
    intro i n w h wl t p g a wd hg s h1 h2 x
    obtain ⟨n, rfl⟩ : ∃ z, n = z + 1 := ⟨n - 1, by omega⟩
    have ho := ok_qI hX i
    obtain ⟨wl₉, t₉, p₉, g₉, a₉, wd₉, hg₉, s₉, e1, e2⟩ := s_quarter ho.1 ho.2.1 x ho.2.2
    obtain ⟨b, b1, b2⟩ := s_isSame (X := qI (i + 1) X) (ok_qI hX (i + 1)) hC e2 y
    rw [f_Chart_isSameTurned_L9, if_neg (show ¬ (4 : Int32) ≤ nI i from nI_ge (b := 4) (by omega) (by decide)), ev_b _ e1, un10_ap, ev_b _ b1]
    cases b with
    | true =>
      rw [if_neg (show ¬ bI true = 0 by decide)]
      exact Or.inl ⟨_, rfl, i + 1, by omega, by omega, b2.mp rfl⟩
    | false =>
      have no : ¬ smX (qI (i + 1) X) C := fun z => by have := b2.mpr z; cases this
      rw [if_pos (show bI false = 0 by decide), ev_bnd, nI_1]
      rcases ih (i + 1) n _ _ _ _ _ _ _ _ _ _ (by omega) (by omega) e2 with ⟨S, s1, j, j1, j2, j3⟩ | ⟨w2, h2₉, wl2, t2, p2, g2, a2, wd2, hg2, s2, s1, s3, s4⟩
      · exact Or.inl ⟨S, s1, j, by omega, j2, j3⟩
      · refine Or.inr ⟨w2, h2₉, wl2, t2, p2, g2, a2, wd2, hg2, s2, s1, s3, fun j h3 h4 => ?_⟩
        by_cases z : j = i + 1
        · subst z; exact no
        · exact s4 j (by omega) h4
theorem s_isSameTurned {X C : BP} {cw chh cn : Int32} {cwl ct : Int64} {ck cp cl cg ca cwd chg : Nat → Int32} {cs : Nat → Int64} {dw dh dn : Int32} {dwl dt : Int64} {dk dp dl dg da dwd dhg : Nat → Int32} {ds : Nat → Int64} (hX : okX X) (hC : okX C) (x : chX X.1 X.2 cw chh cn cwl ct ck cp cl cg ca cwd chg cs) (y : chX C.1 C.2 dw dh dn dwl dt dk dp dl dg da dwd dhg ds) :
    ∃ b w₉ h₉ wl₉ t₉ p₉ g₉ a₉ wd₉ hg₉ s₉, f_Chart_isSameTurned cw chh cn cwl ct ck cp cl cg ca cwd chg cs dw dh dn dwl dt dk dp dl dg da ds = some (bI b, w₉, h₉, wl₉, t₉, p₉, g₉, a₉, wd₉, hg₉, s₉) ∧ (b = true ↔ orb X C) := by
  have h4 := ok_qI hX 4
  have hM := ok_tu (ov := true) h4
  have hm := ok_tu (ov := true) hX
  have s4 : smX (qI 4 X) X := q4_sm hX
  have sM : smX (tuX true (qI 4 X)) (tuX true X) := sm_tu h4 s4
  have or1 : ∀ j, 0 < j → j ≤ 4 → smX (qI j X) C → orb X C := by
    intro j j1 j2 q
    by_cases z : j = 4
    · subst z; exact ⟨0, by decide, Or.inl (sm_trans (sm_symm h4 s4) q)⟩
    · exact ⟨j, by omega, Or.inl q⟩
  have or2 : ∀ j, 0 < j → j ≤ 4 → smX (qI j (tuX true (qI 4 X))) C → orb X C := by
    intro j j1 j2 q
    have q₉ : smX (qI j (tuX true X)) C := sm_trans (sm_symm (ok_qI hM j) (sm_qI hM sM j)) q
    by_cases z : j = 4
    · subst z; exact ⟨0, by decide, Or.inr (sm_trans (sm_symm (ok_qI hm 4) (q4_sm hm)) q₉)⟩
    · exact ⟨j, by omega, Or.inr q₉⟩
  have no : (∀ j, 0 < j → j ≤ 4 → ¬ smX (qI j X) C) → (∀ j, 0 < j → j ≤ 4 → ¬ smX (qI j (tuX true (qI 4 X))) C) → ¬ orb X C := by
    rintro n1 n2 ⟨i, hi, q | q⟩
    · by_cases z : i = 0
      · subst z; exact n1 4 (by decide) (by decide) (sm_trans s4 q)
      · exact n1 i (by omega) (by omega) q
    · have q₉ : smX (qI i (tuX true (qI 4 X))) C := sm_trans (sm_qI hM sM i) q
      by_cases z : i = 0
      · subst z; exact n2 4 (by decide) (by decide) (sm_trans (q4_sm hM) q₉)
      · exact n2 i (by omega) (by omega) q₉
  unfold f_Chart_isSameTurned
  have jn : jN = 1999997 + 3 := rfl
  rcases s_stL9 (v2 := 0) hX hC y 4 0 jN cw chh cwl ct cp cg ca cwd chg cs (by omega) (by decide) x with ⟨S, e1, j, j1, j2, j3⟩ | ⟨w1, h1, wl1, t1, p1, g1, a1, wd1, hg1, s1, e1, e2, e3⟩
  · obtain ⟨q1, q2, q3, q4, q5, q6, q7, q8, q9, q10⟩ := S
    have l2 : f_Chart_isSameTurned_L2 cn ck cl dw dh dn dwl dt dk dp dl dg da ds (1999999 + 1) 0 cw chh cwl ct cp cg ca cwd chg cs = some (.inl (q1, q2, q3, q4, q5, q6, q7, q8, q9, q10)) := by
      rw [f_Chart_isSameTurned_L2, if_neg (show ¬ (2 : Int32) ≤ 0 by decide), ev_b (x := f_Chart_isSameTurned_L9 0 cn ck cl dw dh dn dwl dt dk dp dl dg da ds jN 0 cw chh cwl ct cp cg ca cwd chg cs) _ e1, jsel_l, un10_ap]
    exact ⟨true, q1, q2, q3, q4, q5, q6, q7, q8, q9, q10, by rw [ev_b (x := f_Chart_isSameTurned_L2 cn ck cl dw dh dn dwl dt dk dp dl dg da ds jN 0 cw chh cwl ct cp cg ca cwd chg cs) _ l2]; rfl, fun _ => or1 j j1 j2 j3, fun _ => rfl⟩
  · obtain ⟨wl2, t2, p2, g2, m1, m2⟩ := s_mirror h4.1 h4.2.1 e2 h4.2.2
    rcases s_stL9 (X := tuX true (qI 4 X)) (v2 := 1) hM hC y 4 0 jN w1 h1 wl2 t2 p2 g2 a1 wd1 hg1 s1 (by omega) (by decide) m2 with ⟨S, e4, j, j1, j2, j3⟩ | ⟨w3, h3, wl3, t3, p3, g3, a3, wd3, hg3, s3, e4, e5, e6⟩
    · obtain ⟨q1, q2, q3, q4, q5, q6, q7, q8, q9, q10⟩ := S
      have l2 : f_Chart_isSameTurned_L2 cn ck cl dw dh dn dwl dt dk dp dl dg da ds (1999998 + 1 + 1) 0 cw chh cwl ct cp cg ca cwd chg cs = some (.inl (q1, q2, q3, q4, q5, q6, q7, q8, q9, q10)) := by
        rw [f_Chart_isSameTurned_L2, if_neg (show ¬ (2 : Int32) ≤ 0 by decide), ev_b (x := f_Chart_isSameTurned_L9 0 cn ck cl dw dh dn dwl dt dk dp dl dg da ds jN 0 cw chh cwl ct cp cg ca cwd chg cs) _ e1, jsel_r, un10_ap, ev_b _ m1, un4_ap, ev_bnd, f_Chart_isSameTurned_L2, if_neg (show ¬ (2 : Int32) ≤ 0 + 1 by decide), ev_b (x := f_Chart_isSameTurned_L9 (0 + 1) cn ck cl dw dh dn dwl dt dk dp dl dg da ds jN 0 w1 h1 wl2 t2 p2 g2 a1 wd1 hg1 s1) _ e4, jsel_l, un10_ap]
      exact ⟨true, q1, q2, q3, q4, q5, q6, q7, q8, q9, q10, by rw [ev_b (x := f_Chart_isSameTurned_L2 cn ck cl dw dh dn dwl dt dk dp dl dg da ds jN 0 cw chh cwl ct cp cg ca cwd chg cs) _ l2]; rfl, fun _ => or2 j j1 j2 j3, fun _ => rfl⟩
    · have h44 := ok_qI hM 4
      obtain ⟨wl5, t5, p5, g5, m3, m4⟩ := s_mirror h44.1 h44.2.1 e5 h44.2.2
      have l2 : f_Chart_isSameTurned_L2 cn ck cl dw dh dn dwl dt dk dp dl dg da ds (1999997 + 1 + 1 + 1) 0 cw chh cwl ct cp cg ca cwd chg cs = some (.inr (w3, h3, wl5, t5, p5, g5, a3, wd3, hg3, s3)) := by
        rw [f_Chart_isSameTurned_L2, if_neg (show ¬ (2 : Int32) ≤ 0 by decide), ev_b (x := f_Chart_isSameTurned_L9 0 cn ck cl dw dh dn dwl dt dk dp dl dg da ds jN 0 cw chh cwl ct cp cg ca cwd chg cs) _ e1, jsel_r, un10_ap, ev_b _ m1, un4_ap, ev_bnd, f_Chart_isSameTurned_L2, if_neg (show ¬ (2 : Int32) ≤ 0 + 1 by decide), ev_b (x := f_Chart_isSameTurned_L9 (0 + 1) cn ck cl dw dh dn dwl dt dk dp dl dg da ds jN 0 w1 h1 wl2 t2 p2 g2 a1 wd1 hg1 s1) _ e4, jsel_r, un10_ap, ev_b _ m3, un4_ap, ev_bnd, f_Chart_isSameTurned_L2, if_pos (show (2 : Int32) ≤ 0 + 1 + 1 by decide)]
      exact ⟨false, w3, h3, wl5, t5, p5, g5, a3, wd3, hg3, s3, by rw [ev_b (x := f_Chart_isSameTurned_L2 cn ck cl dw dh dn dwl dt dk dp dl dg da ds jN 0 cw chh cwl ct cp cg ca cwd chg cs) _ l2]; rfl, fun z => by (cases z), fun z => absurd z (no e3 e6)⟩
end
section
/-! same of the reference. -/
theorem ma_clr {ov : Bool} : ∀ (r k n : Nat) (nw : Nat → Int32), k + r = 64 → r < n → (∀ f, f < k → nw f = 0) → ∃ N, f_BargeBasinModel_asTurned_L2 (bI ov) n (nI k) nw = some N ∧ ∀ f, f < 64 → N f = 0 := by
  intro r
  induction r with
  | zero =>
    intro k n nw h1 h2 h3
    obtain ⟨n, rfl⟩ : ∃ z, n = z + 1 := ⟨n - 1, by omega⟩
    have e : k = 64 := by omega
    subst e
    exact ⟨nw, by rw [f_BargeBasinModel_asTurned_L2, if_pos (show (64 : Int32) ≤ nI 64 by decide)], h3⟩
  | succ r ih =>
    intro k n nw h1 h2 h3
    obtain ⟨n, rfl⟩ : ∃ z, n = z + 1 := ⟨n - 1, by omega⟩
    rw [f_BargeBasinModel_asTurned_L2, if_neg (show ¬ (64 : Int32) ≤ nI k from nI_ge (b := 64) (by omega) (by decide)), ev_grdN _ (show k < 64 by omega) (by decide), ev_bnd, nI_1, nI_clamp (show k < 2 ^ 31 by omega), show vp_nar .boolean (0 : Int32) = 0 from nar_bI false]
    exact ih (k + 1) n _ (by omega) (by omega) (fun f hf => by
      by_cases z : f = k
      · rw [z, pk_us]
      · rw [pk_un z]; exact h3 f (by omega))
theorem ma_turX {ov : Bool} {B : Bas} {y : Nat} {kwl : Nat → Int32} (h : basOk B) (hw : rfW B kwl) (hy : y < bh B) : ∀ (r x n : Nat) (nw : Nat → Int32), x + r = bw B → r < n → (∀ f, f < 64 → nw f = bI (wlK ov B (x + 8 * y) f)) → ∃ N, f_BargeBasinModel_asTurned_L33 (bI ov) (nI y) (nI (bw B)) (nI (bh B)) kwl n (nI x) nw = some N ∧ ∀ f, f < 64 → N f = bI (wlK ov B (bw B + 8 * y) f) := by
  have w8 := h.2.1
  have h8 := h.2.2.2.1
  intro r
  induction r with
  | zero =>
    intro x n nw h1 h2 h3
    obtain ⟨n, rfl⟩ : ∃ z, n = z + 1 := ⟨n - 1, by omega⟩
    have e : x = bw B := by omega
    subst e
    exact ⟨nw, by rw [f_BargeBasinModel_asTurned_L33, if_pos (nI_le (Nat.le_refl _) (by omega))], h3⟩
  | succ r ih =>
    intro x n nw h1 h2 h3
    obtain ⟨n, rfl⟩ : ∃ z, n = z + 1 := ⟨n - 1, by omega⟩
    have e₉ : nI x + (8 : Int32) * nI y = nI (x + 8 * y) := by rw [i8, nI_add]
    have sx : x + 1 + 8 * y = x + 8 * y + 1 := by omega
    rw [f_BargeBasinModel_asTurned_L33, if_neg (nI_ge (show x < bw B by omega) (by omega)), e₉]
    simp only [ev_grdN _ (show x + 8 * y < 64 by omega) (show 64 < 2 ^ 31 by decide), nI_clamp (show x + 8 * y < 2 ^ 31 by omega), ev_bnd, nI_1, hw _ (show x + 8 * y < 64 by omega)]
    cases e : bwl B (x + 8 * y) with
    | false =>
      rw [if_pos (show bI false = 0 by decide)]
      exact ih (x + 1) n nw (by omega) (by omega) (fun f hf => by rw [h3 f hf, sx, wlK_n e])
    | true =>
      have hi : (x + 8 * y) % 8 < bw B ∧ (x + 8 * y) / 8 < bh B := by omega
      have t := (tpl_xy (ov := ov) (W := 1) (H := 1) (show (x + 8 * y) % 8 + 1 ≤ bw B by omega) (show (x + 8 * y) / 8 + 1 ≤ bh B by omega) w8 h8 (by decide) (by decide)).2.2
      rw [if_neg (show ¬ bI true = 0 by decide), ev_b (x := f_BargeBasinModel_turned (nI (x + 8 * y)) 1 1 (nI (bw B)) (nI (bh B)) (bI ov)) _ (m_turned (W := 1) (H := 1) (show x + 8 * y < 64 by omega) (by omega) (by omega)), ev_grdN _ t (by decide), nI_clamp (show _ < 2 ^ 31 by omega), nar1]
      exact ih (x + 1) n _ (by omega) (by omega) (fun f hf => by
        rw [sx, wlK_s h e hi hf]
        by_cases z : f = tpl ov (bw B) (bh B) 1 1 (x + 8 * y)
        · rw [z, pk_us, decide_eq_true rfl, Bool.or_true]; rfl
        · rw [pk_un z, h3 f hf, decide_eq_false z, Bool.or_false])
theorem ma_turY {ov : Bool} {B : Bas} {kwl : Nat → Int32} (h : basOk B) (hw : rfW B kwl) (ho : ∀ f, f < 64 → (bw B ≤ f % 8 ∨ bh B ≤ f / 8) → bwl B f = false) : ∀ (r y n : Nat) (nw : Nat → Int32), y + r = bh B → r < n → (∀ f, f < 64 → nw f = bI (wlK ov B (8 * y) f)) → ∃ N, f_BargeBasinModel_asTurned_L23 (bI ov) (nI (bw B)) (nI (bh B)) kwl n (nI y) nw = some N ∧ ∀ f, f < 64 → N f = bI (bwl (tuB ov B) f) := by
  have w8 := h.2.1
  have h8 := h.2.2.2.1
  intro r
  induction r with
  | zero =>
    intro y n nw h1 h2 h3
    obtain ⟨n, rfl⟩ : ∃ z, n = z + 1 := ⟨n - 1, by omega⟩
    have e : y = bh B := by omega
    subst e
    refine ⟨nw, by rw [f_BargeBasinModel_asTurned_L23, if_pos (nI_le (Nat.le_refl _) (by omega))], fun f hf => ?_⟩
    rw [h3 f hf, ← wlK_64 h hf, ← wlK_skip (64 - 8 * bh B) (8 * bh B) (fun j h4 h5 => ho j (by omega) (by omega)), show 8 * bh B + (64 - 8 * bh B) = 64 by omega]
  | succ r ih =>
    intro y n nw h1 h2 h3
    obtain ⟨n, rfl⟩ : ∃ z, n = z + 1 := ⟨n - 1, by omega⟩
    obtain ⟨N, n1, n2⟩ := ma_turX h hw (show y < bh B by omega) (bw B) 0 jN nw (by omega) (by show bw B < 2000000; omega) (fun f hf => by rw [h3 f hf, Nat.zero_add])
    rw [f_BargeBasinModel_asTurned_L23, if_neg (nI_ge (show y < bh B by omega) (by omega)), ev_b (x := f_BargeBasinModel_asTurned_L33 (bI ov) (nI y) (nI (bw B)) (nI (bh B)) kwl jN 0 nw) _ n1, ev_bnd, nI_1]
    refine ih (y + 1) n N (by omega) (by omega) (fun f hf => ?_)
    rw [n2 f hf, ← wlK_skip (8 - bw B) (bw B + 8 * y) (fun j h4 h5 => ho j (by omega) (by omega)), show bw B + 8 * y + (8 - bw B) = 8 * (y + 1) by omega]
theorem ma_cpW {ov : Bool} {nw : Nat → Int32} {p : Nat → Bool} (hn : ∀ f, f < 64 → nw f = bI (p f)) : ∀ (r k n : Nat) (wl : Nat → Int32), k + r = 64 → r < n → (∀ f, f < k → wl f = bI (p f)) → ∃ N, f_BargeBasinModel_asTurned_L95 (bI ov) nw n (nI k) wl = some N ∧ ∀ f, f < 64 → N f = bI (p f) := by
  intro r
  induction r with
  | zero =>
    intro k n wl h1 h2 h3
    obtain ⟨n, rfl⟩ : ∃ z, n = z + 1 := ⟨n - 1, by omega⟩
    have e : k = 64 := by omega
    subst e
    exact ⟨wl, by rw [f_BargeBasinModel_asTurned_L95, if_pos (show (64 : Int32) ≤ nI 64 by decide)], h3⟩
  | succ r ih =>
    intro k n wl h1 h2 h3
    obtain ⟨n, rfl⟩ : ∃ z, n = z + 1 := ⟨n - 1, by omega⟩
    rw [f_BargeBasinModel_asTurned_L95, if_neg (show ¬ (64 : Int32) ≤ nI k from nI_ge (b := 64) (by omega) (by decide)), ev_grdN _ (show k < 64 by omega) (by decide), ev_bnd, ev_grdN _ (show k < 64 by omega) (by decide), ev_bnd, nI_1, nI_clamp (show k < 2 ^ 31 by omega), hn k (by omega), nar_bI]
    exact ih (k + 1) n _ (by omega) (by omega) (fun f hf => by
      by_cases z : f = k
      · rw [z, pk_us]
      · rw [pk_un z]; exact h3 f (by omega))
/-- the reference's picture of X -/
def asR (X : BP) (aw ah : Int32) (aat ag ay awd ata awl : Nat → Int32) : Prop := aw = nI (bw X.1) ∧ ah = nI (bh X.1) ∧ rfW X.1 awl ∧ chP X.1 X.2 aat ∧ chG X.1 ag ∧ ∀ b, b < bn X.1 → ay b = nI (bY X.1 b) ∧ awd b = nI (xW X.1 b) ∧ ata b = nI (xH X.1 b)
theorem m_asL {ov : Bool} {X : BP} {kk : Nat → Int32} (hX : okX X) (hk : ∀ b, b < bn X.1 → kk b = nI (bK X.1 b)) : ∀ (r b n : Nat) (p g y w t : Nat → Int32), b + r = bn X.1 → r < n → (∀ c, c < bn X.1 → p c = nI (if c < b then (tuX ov X).2 c else X.2 c)) → (∀ c, c < bn X.1 → bK X.1 c = 5 → g c = nI (if c < b then bG (tuX ov X).1 c else bG X.1 c)) → (∀ c, c < bn X.1 → y c = nI (if c < b then bY (tuX ov X).1 c else bY X.1 c) ∧ w c = nI (if c < b then xW (tuX ov X).1 c else xW X.1 c) ∧ t c = nI (if c < b then xH (tuX ov X).1 c else xH X.1 c)) →
    ∃ p₉ g₉ y₉ w₉ t₉, f_BargeBasinModel_asTurned_L121 (bI ov) (nI (bn X.1)) (nI (bw X.1)) (nI (bh X.1)) kk n (nI b) p g y w t = some (p₉, g₉, y₉, w₉, t₉) ∧ chP (tuX ov X).1 (tuX ov X).2 p₉ ∧ chG (tuX ov X).1 g₉ ∧ ∀ c, c < bn X.1 → y₉ c = nI (bY (tuX ov X).1 c) ∧ w₉ c = nI (xW (tuX ov X).1 c) ∧ t₉ c = nI (xH (tuX ov X).1 c) := by
  obtain ⟨h, hP, ho⟩ := hX
  have n12 := h.2.2.2.2.1
  have w8 := h.2.1
  have h8 := h.2.2.2.1
  intro r
  induction r with
  | zero =>
    intro b n p g y w t h1 h2 h3 h4 h5
    obtain ⟨n, rfl⟩ : ∃ z, n = z + 1 := ⟨n - 1, by omega⟩
    have e : b = bn X.1 := by omega
    subst e
    refine ⟨p, g, y, w, t, by rw [f_BargeBasinModel_asTurned_L121, if_pos (nI_le (Nat.le_refl _) (by omega))], fun c hc₉ => by rw [h3 c hc₉, if_pos (show c < bn X.1 from hc₉)], fun c hc₉ e5 => by rw [h4 c hc₉ e5, if_pos (show c < bn X.1 from hc₉)], fun c hc₉ => ?_⟩
    have := h5 c hc₉
    rw [if_pos hc₉, if_pos hc₉, if_pos hc₉] at this
    exact this
  | succ r ih =>
    intro b n p g y w t h1 h2 h3 h4 h5
    obtain ⟨n, rfl⟩ : ∃ z, n = z + 1 := ⟨n - 1, by omega⟩
    have hb : b < bn X.1 := by omega
    obtain ⟨a1, a2, a3, a4, a5, a6, a7, a8⟩ := basOk_wh h hb
    obtain ⟨i1, i2⟩ := hP.1.1 b hb
    have p64 := ins_64 h hP.1.1 hb
    have hp := h3 b hb
    rw [if_neg (Nat.lt_irrefl b)] at hp
    obtain ⟨q1, q2, q3⟩ := h5 b hb
    rw [if_neg (Nat.lt_irrefl b)] at q1 q2 q3
    have tP : (tuX ov X).2 b = tpl ov (bw X.1) (bh X.1) (xW X.1 b) (xH X.1 b) (X.2 b) := if_pos hb
    obtain ⟨x1, x2⟩ := tu_x (ov := ov) h hb
    obtain ⟨rg, g1, g2⟩ : ∃ rg, f_BargeBasinModel_turned (g b) (nI (xW X.1 b)) (nI (xH X.1 b)) (nI (bw X.1)) (nI (bh X.1)) (bI ov) = some rg ∧ (bK X.1 b = 5 → rg = nI (bG (tuX ov X).1 b)) := by
      by_cases k5 : bK X.1 b = 5
      · obtain ⟨-, -, z3, z4⟩ := hP.2.2 b hb k5
        have hg := h4 b hb k5
        rw [if_neg (Nat.lt_irrefl b)] at hg
        exact ⟨_, by rw [hg]; exact m_turned (h.2.2.2.2.2.2 b hb k5) z3 z4, fun _ => rfl⟩
      · unfold f_BargeBasinModel_turned
        rw [ev_div _ (by decide), ev_bnd, ev_div _ (by decide), ev_bnd]
        by_cases z : bI ov = 0
        · rw [if_pos z]; exact ⟨_, rfl, fun q => absurd q k5⟩
        · rw [if_neg z]; exact ⟨_, rfl, fun q => absurd q k5⟩
    have pc : ∀ c, c < bn X.1 → upd p b (nI (tpl ov (bw X.1) (bh X.1) (xW X.1 b) (xH X.1 b) (X.2 b))) c = nI (if c < b + 1 then (tuX ov X).2 c else X.2 c) := by
      intro c hc₉
      by_cases z : c = b
      · rw [z, pk_us, if_pos (Nat.lt_succ_self b), tP]
      · rw [pk_un z, h3 c hc₉]
        by_cases y : c < b
        · rw [if_pos y, if_pos (by omega)]
        · rw [if_neg y, if_neg (by omega)]
    have gc : ∀ c, c < bn X.1 → bK X.1 c = 5 → upd g b rg c = nI (if c < b + 1 then bG (tuX ov X).1 c else bG X.1 c) := by
      intro c hc₉ e5
      by_cases z : c = b
      · subst z; rw [pk_us, if_pos (Nat.lt_succ_self c), g2 e5]
      · rw [pk_un z, h4 c hc₉ e5]
        by_cases y : c < b
        · rw [if_pos y, if_pos (by omega)]
        · rw [if_neg y, if_neg (by omega)]
    have gen : ∀ (u : Nat → Int32) (v : Int32) (o m : Nat → Nat), (∀ c, c < bn X.1 → u c = nI (if c < b then m c else o c)) → v = nI (m b) → ∀ c, c < bn X.1 → upd u b v c = nI (if c < b + 1 then m c else o c) := by
      intro u v o m hu hv c hc₉
      by_cases z : c = b
      · subst z; rw [pk_us, if_pos (Nat.lt_succ_self c), hv]
      · rw [pk_un z, hu c hc₉]
        by_cases y : c < b
        · rw [if_pos y, if_pos (by omega)]
        · rw [if_neg y, if_neg (by omega)]
    have gen0 : ∀ (u : Nat → Int32) (o m : Nat → Nat), (∀ c, c < bn X.1 → u c = nI (if c < b then m c else o c)) → m b = o b → ∀ c, c < bn X.1 → u c = nI (if c < b + 1 then m c else o c) := by
      intro u o m hu hv c hc₉
      rw [hu c hc₉]
      by_cases z : c = b
      · subst z; rw [if_neg (Nat.lt_irrefl c), if_pos (Nat.lt_succ_self c), hv]
      · by_cases y : c < b
        · rw [if_pos y, if_pos (by omega)]
        · rw [if_neg y, if_neg (by omega)]
    rw [f_BargeBasinModel_asTurned_L121, if_neg (nI_ge hb (by omega))]
    simp only [ev_grdN _ a1 (show 12 < 2 ^ 31 by decide), cl_nI a1, hp, q1, q2, q3]
    rw [ev_b _ (m_turned p64 i1 i2), ev_b _ g1]
    simp only [ev_bnd, nI_1]
    cases ov with
    | true =>
      rw [if_neg (show ¬ bI true = 0 by decide)]
      exact ih (b + 1) n _ _ _ _ _ (by omega) (by omega) pc gc (fun c hc₉ => ⟨gen0 y _ _ (fun c hc => (h5 c hc).1) rfl c hc₉, gen0 w _ _ (fun c hc => (h5 c hc).2.1) x1 c hc₉, gen0 t _ _ (fun c hc => (h5 c hc).2.2) x2 c hc₉⟩)
    | false =>
      rw [if_pos (show bI false = 0 by decide), ev_b _ (m_isLong a1 (hk b hb) a2)]
      have yT : bY (tuX false X).1 b = (if bK X.1 b = 1 ∨ bK X.1 b = 5 then 1 - bY X.1 b else bY X.1 b) := rfl
      have wc := gen w (nI (xH X.1 b)) (xW X.1) (xW (tuX false X).1) (fun c hc => (h5 c hc).2.1) (by show nI (xH X.1 b) = nI (xW (tuB false X.1) b); rw [x1]; rfl)
      have tc := gen t (nI (xW X.1 b)) (xH X.1) (xH (tuX false X).1) (fun c hc => (h5 c hc).2.2) (by show nI (xW X.1 b) = nI (xH (tuB false X.1) b); rw [x2]; rfl)
      by_cases k : bK X.1 b = 1 ∨ bK X.1 b = 5
      · rw [decide_eq_true k, if_neg (show ¬ bI true = 0 by decide), one_sub _ a3]
        exact ih (b + 1) n _ _ _ _ _ (by omega) (by omega) pc gc (fun c hc₉ => ⟨gen y _ (bY X.1) (bY (tuX false X).1) (fun c hc => (h5 c hc).1) (by rw [yT, if_pos k]) c hc₉, wc c hc₉, tc c hc₉⟩)
      · rw [decide_eq_false k, if_pos (show bI false = 0 by decide)]
        exact ih (b + 1) n _ _ _ _ _ (by omega) (by omega) pc gc (fun c hc₉ => ⟨gen0 y (bY X.1) (bY (tuX false X).1) (fun c hc => (h5 c hc).1) (by rw [yT, if_neg k]) c hc₉, wc c hc₉, tc c hc₉⟩)
theorem m_asTurned {ov : Bool} {X : BP} {kk : Nat → Int32} {aw ah : Int32} {aat ag ay awd ata awl : Nat → Int32} (hX : okX X) (hk : ∀ b, b < bn X.1 → kk b = nI (bK X.1 b)) (ha : asR X aw ah aat ag ay awd ata awl) (nw : Nat → Int32) :
    ∃ aw₉ ah₉ nw₉ aat₉ ag₉ ay₉ awd₉ ata₉ awl₉, f_BargeBasinModel_asTurned (bI ov) (nI (bn X.1)) aw ah kk nw aat ag ay awd ata awl = some (aw₉, ah₉, nw₉, aat₉, ag₉, ay₉, awd₉, ata₉, awl₉) ∧ asR (tuX ov X) aw₉ ah₉ aat₉ ag₉ ay₉ awd₉ ata₉ awl₉ := by
  obtain ⟨r1, r2, r3, r4, r5, r6⟩ := ha
  subst r1; subst r2
  have n12 := hX.1.2.2.2.2.1
  have h8 := hX.1.2.2.2.1
  obtain ⟨N0, n1, n2⟩ := ma_clr (ov := ov) 64 0 jN nw (by omega) (by show 64 < 2000000; omega) (fun f hf => by omega)
  obtain ⟨N1, n3, n4⟩ := ma_turY (ov := ov) hX.1 r3 hX.2.2 (bh X.1) 0 jN N0 (by omega) (by show bh X.1 < 2000000; omega) (fun f hf => by rw [n2 f hf, wlK_0]; rfl)
  obtain ⟨N2, n5, n6⟩ := ma_cpW (ov := ov) n4 64 0 jN awl (by omega) (by show 64 < 2000000; omega) (fun f hf => by omega)
  obtain ⟨p, g, y, w, t, e1, e2, e3, e4⟩ := m_asL (ov := ov) hX hk (bn X.1) 0 jN aat ag ay awd ata (by omega) (by show bn X.1 < 2000000; omega) (fun c hc => by rw [if_neg (Nat.not_lt_zero c)]; exact r4 c hc) (fun c hc e => by rw [if_neg (Nat.not_lt_zero c)]; exact r5 c hc e) (fun c hc => by rw [if_neg (Nat.not_lt_zero c), if_neg (Nat.not_lt_zero c), if_neg (Nat.not_lt_zero c)]; exact r6 c hc)
  unfold f_BargeBasinModel_asTurned
  rw [ev_b (x := f_BargeBasinModel_asTurned_L2 (bI ov) jN 0 nw) _ n1, ev_b (x := f_BargeBasinModel_asTurned_L23 (bI ov) (nI (bw X.1)) (nI (bh X.1)) awl jN 0 N0) _ n3, ev_b (x := f_BargeBasinModel_asTurned_L95 (bI ov) N1 jN 0 awl) _ n5, ev_b (x := f_BargeBasinModel_asTurned_L121 (bI ov) (nI (bn X.1)) (nI (bw X.1)) (nI (bh X.1)) kk jN 0 aat ag ay awd ata) _ e1, un5_ap]
  cases ov with
  | true => rw [if_neg (show ¬ bI true = 0 by decide)]; exact ⟨_, _, _, _, _, _, _, _, _, rfl, rfl, rfl, n6, e2, e3, e4⟩
  | false => rw [if_pos (show bI false = 0 by decide)]; exact ⟨_, _, _, _, _, _, _, _, _, rfl, rfl, rfl, n6, e2, e3, e4⟩
end
section
/-! same of the reference: isAs. -/
theorem m_asW {kwl : Nat → Int32} {p : Nat → Bool} (hn : ∀ f, f < 64 → kwl f = bI (p f)) : ∀ (r k n : Nat) (wl : Nat → Int32), k + r = 64 → r < n → (∀ f, f < k → wl f = bI (p f)) → ∃ N, f_BargeBasinModel_asItIs_L18 kwl n (nI k) wl = some N ∧ ∀ f, f < 64 → N f = bI (p f) := by
  intro r
  induction r with
  | zero =>
    intro k n wl h1 h2 h3
    obtain ⟨n, rfl⟩ : ∃ z, n = z + 1 := ⟨n - 1, by omega⟩
    have e : k = 64 := by omega
    subst e
    exact ⟨wl, by rw [f_BargeBasinModel_asItIs_L18, if_pos (show (64 : Int32) ≤ nI 64 by decide)], h3⟩
  | succ r ih =>
    intro k n wl h1 h2 h3
    obtain ⟨n, rfl⟩ : ∃ z, n = z + 1 := ⟨n - 1, by omega⟩
    rw [f_BargeBasinModel_asItIs_L18, if_neg (show ¬ (64 : Int32) ≤ nI k from nI_ge (b := 64) (by omega) (by decide)), ev_grdN _ (show k < 64 by omega) (by decide), ev_bnd, ev_grdN _ (show k < 64 by omega) (by decide), ev_bnd, nI_1, nI_clamp (show k < 2 ^ 31 by omega), hn k (by omega), nar_bI]
    exact ih (k + 1) n _ (by omega) (by omega) (fun f hf => by
      by_cases z : f = k
      · rw [z, pk_us]
      · rw [pk_un z]; exact h3 f (by omega))
theorem m_asB {X : BP} {kk kat ks ky kg : Nat → Int32} (h : basOk X.1) (hr : rfB X.1 kk ks ky) (hp : chP X.1 X.2 kat) (hg : chG X.1 kg) : ∀ (r b n : Nat) (p g y w t : Nat → Int32), b + r = bn X.1 → r < n → (∀ c, c < b → p c = nI (X.2 c) ∧ (bK X.1 c = 5 → g c = nI (bG X.1 c)) ∧ y c = nI (bY X.1 c) ∧ w c = nI (xW X.1 c) ∧ t c = nI (xH X.1 c)) →
    ∃ p₉ g₉ y₉ w₉ t₉, f_BargeBasinModel_asItIs_L44 (nI (bn X.1)) kk kat ks ky kg n (nI b) p g y w t = some (p₉, g₉, y₉, w₉, t₉) ∧ ∀ c, c < bn X.1 → p₉ c = nI (X.2 c) ∧ (bK X.1 c = 5 → g₉ c = nI (bG X.1 c)) ∧ y₉ c = nI (bY X.1 c) ∧ w₉ c = nI (xW X.1 c) ∧ t₉ c = nI (xH X.1 c) := by
  have n12 := h.2.2.2.2.1
  intro r
  induction r with
  | zero =>
    intro b n p g y w t h1 h2 h3
    obtain ⟨n, rfl⟩ : ∃ z, n = z + 1 := ⟨n - 1, by omega⟩
    have e : b = bn X.1 := by omega
    subst e
    exact ⟨p, g, y, w, t, by rw [f_BargeBasinModel_asItIs_L44, if_pos (nI_le (Nat.le_refl _) (by omega))], h3⟩
  | succ r ih =>
    intro b n p g y w t h1 h2 h3
    obtain ⟨n, rfl⟩ : ∃ z, n = z + 1 := ⟨n - 1, by omega⟩
    have hb : b < bn X.1 := by omega
    obtain ⟨a1, a2, a3, a4, a5, a6, a7, a8⟩ := basOk_wh h hb
    obtain ⟨m1, m2, m3⟩ := hr b hb
    rw [f_BargeBasinModel_asItIs_L44, if_neg (nI_ge hb (by omega))]
    simp only [ev_grdN _ a1 (show 12 < 2 ^ 31 by decide), cl_nI a1, ev_bnd, nI_1]
    rw [ev_b _ (m_wide a1 m1 m2 m3 a2 a3), ev_b _ (m_tall a1 m1 m2 m3 a2 a3)]
    refine ih (b + 1) n _ _ _ _ _ (by omega) (by omega) (fun c hc => ?_)
    by_cases z : c = b
    · subst z
      rw [pk_us, pk_us, pk_us, pk_us, pk_us]
      exact ⟨hp c hb, fun e => hg c hb e, m3, rfl, rfl⟩
    · rw [pk_un z, pk_un z, pk_un z, pk_un z, pk_un z]
      exact h3 c (by omega)
theorem m_asItIs {X : BP} {khas kw kh kn : Int32} {kwl kk kat ks ky kg : Nat → Int32} (hX : okX X) (hr : rfX X.1 X.2 khas kw kh kn kwl kk kat ks ky kg) (aw ah : Int32) (aat ag ay awd ata awl : Nat → Int32) :
    ∃ aw₉ ah₉ aat₉ ag₉ ay₉ awd₉ ata₉ awl₉, f_BargeBasinModel_asItIs kw kh kn aw ah kwl kk kat ks ky kg aat ag ay awd ata awl = some (aw₉, ah₉, aat₉, ag₉, ay₉, awd₉, ata₉, awl₉) ∧ asR X aw₉ ah₉ aat₉ ag₉ ay₉ awd₉ ata₉ awl₉ := by
  obtain ⟨r1, r2, r3, r4, r5, r6, r7, r8⟩ := hr
  subst r2; subst r3; subst r4
  have n12 := hX.1.2.2.2.2.1
  obtain ⟨N, n1, n2⟩ := m_asW r5 64 0 jN awl (by omega) (by show 64 < 2000000; omega) (fun f hf => by omega)
  obtain ⟨p, g, y, w, t, e1, e2⟩ := m_asB hX.1 r6 r7 r8 (bn X.1) 0 jN aat ag ay awd ata (by omega) (by show bn X.1 < 2000000; omega) (fun c hc => by omega)
  refine ⟨nI (bw X.1), nI (bh X.1), p, g, y, w, t, N, ?_, rfl, rfl, n2, fun c hc => (e2 c hc).1, fun c hc e => (e2 c hc).2.1 e, fun c hc => (e2 c hc).2.2⟩
  unfold f_BargeBasinModel_asItIs
  rw [ev_b (x := f_BargeBasinModel_asItIs_L18 kwl jN 0 awl) _ n1, ev_b (x := f_BargeBasinModel_asItIs_L44 (nI (bn X.1)) kk kat ks ky kg jN 0 aat ag ay awd ata) _ e1, un5_ap]
theorem m_hasLike {X K : BP} {k b : Nat} {iK kW kH kN kWl kK kA kS kY kG kk ks aat ag ay : Nat → Int32} (hX : okX X) (hK : okX K) (hk4 : k < 4) (hn : bn X.1 = bn K.1) (kp : kpR K.1 K.2 k iK kW kH kN kWl kK kA kS kY kG) (hk : ∀ c, c < bn X.1 → kk c = nI (bK X.1 c) ∧ ks c = nI (bS X.1 c)) (hp : chP X.1 X.2 aat) (hg : chG X.1 ag) (hy : ∀ c, c < bn X.1 → ay c = nI (bY X.1 c)) (hb : b < bn X.1) :
    ∃ t, f_BargeBasinModel_hasLike (nI k) (nI b) (nI (bn X.1)) kk ks kK kA kS kY kG aat ag ay = some (bI t) ∧ (t = true ↔ ∃ d, d < bn K.1 ∧ likeA X b K d) := by
  have n12 := hX.1.2.2.2.2.1
  obtain ⟨-, -, -, -, -, k6, k7, k8⟩ := kp
  obtain ⟨a1, a2, a3, a4, a5, a6, a7, a8⟩ := basOk_wh hX.1 hb
  have p1 := ins_64 hX.1 hX.2.1.1.1 hb
  obtain ⟨l1, -, -⟩ := hX.1.2.2.2.2.2.1 b hb
  have s1 : bS X.1 b < 5 := by unfold lenOk at l1; omega
  have loop : ∀ (r c n : Nat), c + r = bn X.1 → r < n → ∃ t, f_BargeBasinModel_hasLike_L5 (nI k) (nI b) (nI (bn X.1)) kk ks kK kA kS kY kG aat ag ay n (nI (12 * k + c)) = some (if t = true then .inl () else .inr ()) ∧ (t = true ↔ ∃ d, c ≤ d ∧ d < bn K.1 ∧ likeA X b K d) := by
    intro r
    induction r with
    | zero =>
      intro c n h1 h2
      obtain ⟨n, rfl⟩ : ∃ z, n = z + 1 := ⟨n - 1, by omega⟩
      have e : c = bn X.1 := by omega
      subst e
      refine ⟨false, ?_, fun z => by (cases z), fun ⟨d, d1, d2, _⟩ => by omega⟩
      rw [f_BargeBasinModel_hasLike_L5, show (12 : Int32) * nI k = nI (12 * k) from pk_mul 12 k, nI_add, if_pos (nI_le (Nat.le_refl _) (by omega))]
      rfl
    | succ r ih =>
      intro c n h1 h2
      obtain ⟨n, rfl⟩ : ∃ z, n = z + 1 := ⟨n - 1, by omega⟩
      have hc : c < bn K.1 := by omega
      obtain ⟨b1, b2, b3, b4, b5, b6, b7, b8⟩ := basOk_wh hK.1 hc
      have p2 := ins_64 hK.1 hK.2.1.1.1 hc
      obtain ⟨l2, -, -⟩ := hK.1.2.2.2.2.2.1 c hc
      have s2 : bS K.1 c < 5 := by unfold lenOk at l2; omega
      obtain ⟨u, u1, u2⟩ := ih (c + 1) n (by omega) (by omega)
      have skip : ¬ likeA X b K c → ∃ t, f_BargeBasinModel_hasLike_L5 (nI k) (nI b) (nI (bn X.1)) kk ks kK kA kS kY kG aat ag ay n (nI (12 * k + c + 1)) = some (if t = true then .inl () else .inr ()) ∧ (t = true ↔ ∃ d, c ≤ d ∧ d < bn K.1 ∧ likeA X b K d) := by
        intro nl
        refine ⟨u, u1, u2.trans ⟨fun ⟨d, d1, d2, d3⟩ => ⟨d, by omega, d2, d3⟩, fun ⟨d, d1, d2, d3⟩ => ?_⟩⟩
        by_cases z : d = c
        · subst z; exact absurd d3 nl
        · exact ⟨d, by omega, d2, d3⟩
      have e1 : (nI (K.2 c) = nI (X.2 b)) = (K.2 c = X.2 b) := nI_eqL (by omega) (by omega)
      have e2 : (nI (bK K.1 c) = nI (bK X.1 b)) = (bK K.1 c = bK X.1 b) := nI_eqL (by omega) (by omega)
      have e3 : (nI (bS K.1 c) = nI (bS X.1 b)) = (bS K.1 c = bS X.1 b) := nI_eqL (by omega) (by omega)
      have e4 : (nI (bY K.1 c) = nI (bY X.1 b)) = (bY K.1 c = bY X.1 b) := nI_eqL (by omega) (by omega)
      have e5 : (nI (bK X.1 b) = 5) = (bK X.1 b = 5) := nI_eqL (j := 5) (by omega) (by decide)
      have g48 : 12 * k + c < 48 := by omega
      rw [f_BargeBasinModel_hasLike_L5, show (12 : Int32) * nI k = nI (12 * k) from pk_mul 12 k, nI_add, if_neg (nI_ge (show 12 * k + c < 12 * k + bn X.1 by omega) (by omega))]
      unfold f_BargeBasinModel_hasLike_J82 f_BargeBasinModel_hasLike_J83
      simp only [ev_grdN _ g48 (show 48 < 2 ^ 31 by decide), ev_grdN _ a1 (show 12 < 2 ^ 31 by decide), cl_nI a1, nI_clamp (show 12 * k + c < 2 ^ 31 by omega), k7 c hc, hp b hb, (k6 c hc).1, (k6 c hc).2.1, (k6 c hc).2.2, (hk b hb).1, (hk b hb).2, hy b hb, e1, e2, e3, e4, e5, ev_bnd, nI_1, if_true, show ¬ (1 : Int32) = 0 by decide, if_false]
      by_cases q1 : K.2 c = X.2 b
      · rw [if_pos q1]
        by_cases q2 : bK K.1 c = bK X.1 b
        · rw [if_pos q2]
          by_cases q3 : bS K.1 c = bS X.1 b
          · rw [if_pos q3]
            by_cases q4 : bY K.1 c = bY X.1 b
            · rw [if_pos q4]
              by_cases q5 : bK X.1 b = 5
              · have g1 := hX.1.2.2.2.2.2.2 b hb q5
                have g2 := hK.1.2.2.2.2.2.2 c hc (by rw [q2]; exact q5)
                have e6 : (nI (bG K.1 c) = nI (bG X.1 b)) = (bG K.1 c = bG X.1 b) := nI_eqL (by omega) (by omega)
                rw [if_pos q5, k8 c hc (by rw [q2]; exact q5), hg b hb q5]
                simp only [e6]
                by_cases q6 : bG K.1 c = bG X.1 b
                · rw [if_pos q6]; exact ⟨true, rfl, fun _ => ⟨c, Nat.le_refl _, hc, q1.symm, q2.symm, q3.symm, q4.symm, fun _ => q6.symm⟩, fun _ => rfl⟩
                · rw [if_neg q6]; exact skip (fun l => q6 (l.2.2.2.2 q5).symm)
              · rw [if_neg q5]; exact ⟨true, rfl, fun _ => ⟨c, Nat.le_refl _, hc, q1.symm, q2.symm, q3.symm, q4.symm, fun z => absurd z q5⟩, fun _ => rfl⟩
            · rw [if_neg q4]; exact skip (fun l => q4 l.2.2.2.1.symm)
          · rw [if_neg q3]; exact skip (fun l => q3 l.2.2.1.symm)
        · rw [if_neg q2]; exact skip (fun l => q2 l.2.1.symm)
      · rw [if_neg q1]; exact skip (fun l => q1 l.1.symm)
  obtain ⟨t, t1, t2⟩ := loop (bn X.1) 0 jN (by omega) (by show bn X.1 < 2000000; omega)
  refine ⟨t, ?_, t2.trans ⟨fun ⟨d, _, d2, d3⟩ => ⟨d, d2, d3⟩, fun ⟨d, d2, d3⟩ => ⟨d, Nat.zero_le _, d2, d3⟩⟩⟩
  unfold f_BargeBasinModel_hasLike
  rw [ev_bnd, show (12 : Int32) * nI k = nI (12 * k) from pk_mul 12 k, ev_b (x := f_BargeBasinModel_hasLike_L5 (nI k) (nI b) (nI (bn X.1)) kk ks kK kA kS kY kG aat ag ay jN (nI (12 * k))) _ t1]
  cases t <;> rfl
theorem m_isAs {X K : BP} {k : Nat} {iK kW kH kN kWl kK kA kS kY kG kk ks : Nat → Int32} {aw ah : Int32} {aat ag ay awd ata awl : Nat → Int32} (hX : okX X) (hK : okX K) (hk4 : k < 4) (kp : kpR K.1 K.2 k iK kW kH kN kWl kK kA kS kY kG) (hk : ∀ c, c < bn X.1 → kk c = nI (bK X.1 c) ∧ ks c = nI (bS X.1 c)) (ha : asR X aw ah aat ag ay awd ata awl) :
    ∃ t, f_BargeBasinModel_isAs (nI k) (nI (bn X.1)) aw ah kk ks kW kH kN kWl kK kA kS kY kG aat ag ay awl = some (bI t) ∧ (t = true ↔ smX X K) := by
  obtain ⟨r1, r2, r3, r4, r5, r6⟩ := ha
  subst r1; subst r2
  have kp0 := kp
  obtain ⟨k1, k2, k3, k4, k5, k6, k7, k8⟩ := kp
  have n12 := hX.1.2.2.2.2.1
  have m12 := hK.1.2.2.2.2.1
  have wX := hX.1.2.1
  have wK := hK.1.2.1
  have vX := hX.1.2.2.2.1
  have vK := hK.1.2.2.2.1
  have e1 : (nI (bw X.1) = nI (bw K.1)) = (bw X.1 = bw K.1) := nI_eqL (by omega) (by omega)
  have e2 : (nI (bh X.1) = nI (bh K.1)) = (bh X.1 = bh K.1) := nI_eqL (by omega) (by omega)
  have e3 : (nI (bn X.1) = nI (bn K.1)) = (bn X.1 = bn K.1) := nI_eqL (by omega) (by omega)
  have lx : ∀ (y : Nat), y < 8 → ∀ (r x n : Nat), x + r = bw X.1 → r < n → ∃ t, f_BargeBasinModel_isAs_L53 (nI k) (nI y) (nI (bw X.1)) kWl awl n (nI x) = some (if t = true then .inr () else .inl ()) ∧ (t = true ↔ ∀ i, x ≤ i → i < bw X.1 → bwl X.1 (i + 8 * y) = bwl K.1 (i + 8 * y)) := by
    intro y hy r
    induction r with
    | zero =>
      intro x n h1 h2
      obtain ⟨n, rfl⟩ : ∃ z, n = z + 1 := ⟨n - 1, by omega⟩
      have e : x = bw X.1 := by omega
      subst e
      exact ⟨true, by rw [f_BargeBasinModel_isAs_L53, if_pos (nI_le (Nat.le_refl _) (by omega))]; rfl, fun _ i h3 h4 => by omega, fun _ => rfl⟩
    | succ r ih =>
      intro x n h1 h2
      obtain ⟨n, rfl⟩ : ∃ z, n = z + 1 := ⟨n - 1, by omega⟩
      have e₉ : nI x + (8 : Int32) * nI y = nI (x + 8 * y) := by rw [i8, nI_add]
      have e₉₉ : (64 : Int32) * nI k + nI x + (8 : Int32) * nI y = nI (64 * k + (x + 8 * y)) := by rw [i8, show (64 : Int32) * nI k = nI (64 * k) from pk_mul 64 k, nI_add, nI_add, Nat.add_assoc]
      rw [f_BargeBasinModel_isAs_L53, if_neg (nI_ge (show x < bw X.1 by omega) (by omega)), e₉, e₉₉]
      simp only [ev_grdN _ (show x + 8 * y < 64 by omega) (show 64 < 2 ^ 31 by decide), ev_grdN _ (show 64 * k + (x + 8 * y) < 256 by omega) (show 256 < 2 ^ 31 by decide), nI_clamp (show x + 8 * y < 2 ^ 31 by omega), nI_clamp (show 64 * k + (x + 8 * y) < 2 ^ 31 by omega), r3 _ (show x + 8 * y < 64 by omega), k5 _ (show x + 8 * y < 64 by omega), bI_eq, ev_bnd, nI_1]
      by_cases q : bwl X.1 (x + 8 * y) = bwl K.1 (x + 8 * y)
      · rw [if_pos q]
        obtain ⟨u, u1, u2⟩ := ih (x + 1) n (by omega) (by omega)
        refine ⟨u, u1, u2.trans ⟨fun z i h3 h4 => ?_, fun z i h3 h4 => z i (by omega) h4⟩⟩
        by_cases e : i = x
        · subst e; exact q
        · exact z i (by omega) h4
      · rw [if_neg q]; exact ⟨false, rfl, fun z => by (cases z), fun z => absurd (z x (Nat.le_refl _) (by omega)) q⟩
  have ly : ∀ (r y n : Nat), y + r = bh X.1 → r < n → ∃ t, f_BargeBasinModel_isAs_L43 (nI k) (nI (bw X.1)) (nI (bh X.1)) kWl awl n (nI y) = some (if t = true then .inr () else .inl ()) ∧ (t = true ↔ ∀ j, y ≤ j → j < bh X.1 → ∀ i, i < bw X.1 → bwl X.1 (i + 8 * j) = bwl K.1 (i + 8 * j)) := by
    intro r
    induction r with
    | zero =>
      intro y n h1 h2
      obtain ⟨n, rfl⟩ : ∃ z, n = z + 1 := ⟨n - 1, by omega⟩
      have e : y = bh X.1 := by omega
      subst e
      exact ⟨true, by rw [f_BargeBasinModel_isAs_L43, if_pos (nI_le (Nat.le_refl _) (by omega))]; rfl, fun _ j h3 h4 => by omega, fun _ => rfl⟩
    | succ r ih =>
      intro y n h1 h2
      obtain ⟨n, rfl⟩ : ∃ z, n = z + 1 := ⟨n - 1, by omega⟩
      obtain ⟨v, v1, v2⟩ := lx y (by omega) (bw X.1) 0 jN (by omega) (by show bw X.1 < 2000000; omega)
      rw [f_BargeBasinModel_isAs_L43, if_neg (nI_ge (show y < bh X.1 by omega) (by omega)), ev_b (x := f_BargeBasinModel_isAs_L53 (nI k) (nI y) (nI (bw X.1)) kWl awl jN 0) _ v1]
      cases v with
      | false => exact ⟨false, rfl, fun z => by (cases z), fun z => v2.mpr (fun i _ h4 => z y (Nat.le_refl _) (by omega) i h4)⟩
      | true =>
        obtain ⟨u, u1, u2⟩ := ih (y + 1) n (by omega) (by omega)
        rw [if_pos rfl, jsel_r, un0_ap, ev_bnd, nI_1]
        refine ⟨u, u1, u2.trans ⟨fun z j h3 h4 => ?_, fun z j h3 h4 => z j (by omega) h4⟩⟩
        by_cases e : j = y
        · subst e; exact fun i hi => v2.mp rfl i (Nat.zero_le _) hi
        · exact z j (by omega) h4
  unfold f_BargeBasinModel_isAs
  simp only [ev_grdN _ hk4 (show 4 < 2 ^ 31 by decide), nI_clamp (show k < 2 ^ 31 by omega), k2, k3, k4, e1, e2, e3]
  by_cases q1 : bw X.1 = bw K.1
  · rw [if_pos q1]
    by_cases q2 : bh X.1 = bh K.1
    · rw [if_pos q2]
      by_cases q3 : bn X.1 = bn K.1
      · rw [if_pos q3]
        obtain ⟨t, t1, t2⟩ := ly (bh X.1) 0 jN (by omega) (by show bh X.1 < 2000000; omega)
        rw [ev_b (x := f_BargeBasinModel_isAs_L43 (nI k) (nI (bw X.1)) (nI (bh X.1)) kWl awl jN 0) _ t1]
        have wl : t = true ↔ ∀ f, f < 64 → bwl X.1 f = bwl K.1 f := t2.trans ⟨fun z f hf => by
          by_cases q : bw X.1 ≤ f % 8 ∨ bh X.1 ≤ f / 8
          · rw [hX.2.2 f hf q, hK.2.2 f hf (by rw [← q1, ← q2]; exact q)]
          · have := z (f / 8) (Nat.zero_le _) (by omega) (f % 8) (by omega)
            rw [Nat.mod_add_div] at this
            exact this, fun z j _ hj i hi => z _ (by omega)⟩
        cases t with
        | false => exact ⟨false, rfl, fun z => by (cases z), fun z => wl.mpr z.2.2.2.1⟩
        | true =>
          have loop : ∀ (r b n : Nat), b + r = bn X.1 → r < n → ∃ t, f_BargeBasinModel_isAs_L107 (nI k) (nI (bn X.1)) kk ks kK kA kS kY kG aat ag ay n (nI b) = some (if t = true then .inr () else .inl ()) ∧ (t = true ↔ ∀ c, b ≤ c → c < bn X.1 → ∃ d, d < bn K.1 ∧ likeA X c K d) := by
            intro r
            induction r with
            | zero =>
              intro b n h1 h2
              obtain ⟨n, rfl⟩ : ∃ z, n = z + 1 := ⟨n - 1, by omega⟩
              have e : b = bn X.1 := by omega
              subst e
              exact ⟨true, by rw [f_BargeBasinModel_isAs_L107, if_pos (nI_le (Nat.le_refl _) (by omega))]; rfl, fun _ c h3 h4 => by omega, fun _ => rfl⟩
            | succ r ih =>
              intro b n h1 h2
              obtain ⟨n, rfl⟩ : ∃ z, n = z + 1 := ⟨n - 1, by omega⟩
              obtain ⟨v, v1, v2⟩ := m_hasLike (b := b) hX hK hk4 q3 kp0 hk r4 r5 (fun c hc => (r6 c hc).1) (by omega)
              rw [f_BargeBasinModel_isAs_L107, if_neg (nI_ge (show b < bn X.1 by omega) (by omega)), ev_b _ v1]
              cases v with
              | false => rw [if_pos (show bI false = 0 by decide)]; exact ⟨false, rfl, fun z => by (cases z), fun z => v2.mpr (z b (Nat.le_refl _) (by omega))⟩
              | true =>
                rw [if_neg (show ¬ bI true = 0 by decide), ev_bnd, nI_1]
                obtain ⟨u, u1, u2⟩ := ih (b + 1) n (by omega) (by omega)
                refine ⟨u, u1, u2.trans ⟨fun z c h3 h4 => ?_, fun z c h3 h4 => z c (by omega) h4⟩⟩
                by_cases e : c = b
                · subst e; exact v2.mp rfl
                · exact z c (by omega) h4
          obtain ⟨u, u1, u2⟩ := loop (bn X.1) 0 jN (by omega) (by show bn X.1 < 2000000; omega)
          rw [if_pos rfl, jsel_r, un0_ap, ev_b (x := f_BargeBasinModel_isAs_L107 (nI k) (nI (bn X.1)) kk ks kK kA kS kY kG aat ag ay jN 0) _ u1]
          refine ⟨u, by cases u <;> rfl, u2.trans ⟨fun z => ⟨q1, q2, q3, wl.mp rfl, fun b hb => z b (Nat.zero_le _) hb⟩, fun z b _ hb => z.2.2.2.2 b hb⟩⟩
      · rw [if_neg q3]; exact ⟨false, rfl, fun z => by (cases z), fun z => absurd z.2.2.1 q3⟩
    · rw [if_neg q2]; exact ⟨false, rfl, fun z => by (cases z), fun z => absurd z.2.1 q2⟩
  · rw [if_neg q1]; exact ⟨false, rfl, fun z => by (cases z), fun z => absurd z.1 q1⟩
end
section
/-! same of both sides. -/
def gI (n : Nat) (C : BP) : BP := if n < 4 then qI n C else qI (n - 4) (tuX true (qI 4 C))
theorem gI_s (C : BP) (i : Nat) : gI (i + 1) C = (if i = 3 then tuX true (tuX false (gI i C)) else tuX false (gI i C)) := by
  unfold gI
  by_cases z : i = 3
  · subst z; rfl
  · rw [if_neg z]
    by_cases y : i < 3
    · rw [if_pos (by omega), if_pos (by omega)]; rfl
    · rw [if_neg (by omega), if_neg (by omega), show i + 1 - 4 = (i - 4) + 1 by omega]; rfl
theorem ok_gI {C : BP} (h : okX C) (i : Nat) : okX (gI i C) := by
  unfold gI
  by_cases z : i < 4
  · rw [if_pos z]; exact ok_qI h i
  · rw [if_neg z]; exact ok_qI (ok_tu (ok_qI h 4)) _
theorem m_sameL {C K : BP} {k : Nat} {iK kW kH kN kWl kK kA kS kY kG kk ks : Nat → Int32} (hC : okX C) (hK : okX K) (hk4 : k < 4) (kp : kpR K.1 K.2 k iK kW kH kN kWl kK kA kS kY kG) :
    ∀ (r i n : Nat) (X : BP) (aw ah : Int32) (nw aat ag ay awd ata awl : Nat → Int32), i + r = 8 → r < n → X = gI i C → bn X.1 = bn C.1 → (∀ c, c < bn X.1 → kk c = nI (bK X.1 c) ∧ ks c = nI (bS X.1 c)) → asR X aw ah aat ag ay awd ata awl →
      (∃ j aw₉ ah₉ nw₉ aat₉ ag₉ ay₉ awd₉ ata₉ awl₉, f_BargeBasinModel_same_L60 (nI k) (nI (bn C.1)) kk ks kW kH kN kWl kK kA kS kY kG n (nI i) aw ah nw aat ag ay awd ata awl = some (.inl (nI j, aw₉, ah₉, nw₉, aat₉, ag₉, ay₉, awd₉, ata₉, awl₉)) ∧ i ≤ j ∧ j < 8 ∧ smX (gI j C) K ∧ ∀ l, i ≤ l → l < j → ¬ smX (gI l C) K) ∨
      (∃ aw₉ ah₉ nw₉ aat₉ ag₉ ay₉ awd₉ ata₉ awl₉, f_BargeBasinModel_same_L60 (nI k) (nI (bn C.1)) kk ks kW kH kN kWl kK kA kS kY kG n (nI i) aw ah nw aat ag ay awd ata awl = some (.inr (aw₉, ah₉, nw₉, aat₉, ag₉, ay₉, awd₉, ata₉, awl₉)) ∧ ∀ l, i ≤ l → l < 8 → ¬ smX (gI l C) K) := by
  intro r
  induction r with
  | zero =>
    intro i n X aw ah nw aat ag ay awd ata awl h1 h2 hx hn hk ha
    obtain ⟨n, rfl⟩ : ∃ z, n = z + 1 := ⟨n - 1, by omega⟩
    have e : i = 8 := by omega
    subst e
    exact Or.inr ⟨aw, ah, nw, aat, ag, ay, awd, ata, awl, by rw [f_BargeBasinModel_same_L60, if_pos (show (8 : Int32) ≤ nI 8 by decide)], fun l h3 h4 => by omega⟩
  | succ r ih =>
    intro i n X aw ah nw aat ag ay awd ata awl h1 h2 hx hn hk ha
    obtain ⟨n, rfl⟩ : ∃ z, n = z + 1 := ⟨n - 1, by omega⟩
    have ok : okX X := by rw [hx]; exact ok_gI hC i
    obtain ⟨t, t1, t2⟩ := m_isAs ok hK hk4 kp hk ha
    rw [hn] at t1
    rw [f_BargeBasinModel_same_L60, if_neg (show ¬ (8 : Int32) ≤ nI i from nI_ge (b := 8) (by omega) (by decide)), ev_b _ t1]
    cases t with
    | true =>
      rw [if_neg (show ¬ bI true = 0 by decide)]
      exact Or.inl ⟨i, aw, ah, nw, aat, ag, ay, awd, ata, awl, rfl, Nat.le_refl _, by omega, by rw [← hx]; exact t2.mp rfl, fun l h3 h4 => by omega⟩
    | false =>
      have no : ¬ smX (gI i C) K := fun z => by rw [← hx] at z; have := t2.mpr z; cases this
      obtain ⟨aw1, ah1, nw1, aat1, ag1, ay1, awd1, ata1, awl1, e1, a1⟩ := m_asTurned (ov := false) ok (fun b hb => (hk b hb).1) ha nw
      have e1₉ : f_BargeBasinModel_asTurned 0 (nI (bn C.1)) aw ah kk nw aat ag ay awd ata awl = some (aw1, ah1, nw1, aat1, ag1, ay1, awd1, ata1, awl1) := by rw [← hn]; exact e1
      rw [if_pos (show bI false = 0 by decide), ev_b _ e1₉, un9_ap]
      have i3 : (nI i = 3) = (i = 3) := nI_eqL (j := 3) (by omega) (by decide)
      simp only [i3, ev_bnd, nI_1]
      have fin : ∀ (Y : BP) (aw2 ah2 : Int32) (nw2 aat2 ag2 ay2 awd2 ata2 awl2 : Nat → Int32), Y = gI (i + 1) C → bn Y.1 = bn C.1 → (∀ c, c < bn Y.1 → kk c = nI (bK Y.1 c) ∧ ks c = nI (bS Y.1 c)) → asR Y aw2 ah2 aat2 ag2 ay2 awd2 ata2 awl2 →
        (∃ j aw₉ ah₉ nw₉ aat₉ ag₉ ay₉ awd₉ ata₉ awl₉, f_BargeBasinModel_same_L60 (nI k) (nI (bn C.1)) kk ks kW kH kN kWl kK kA kS kY kG n (nI (i + 1)) aw2 ah2 nw2 aat2 ag2 ay2 awd2 ata2 awl2 = some (.inl (nI j, aw₉, ah₉, nw₉, aat₉, ag₉, ay₉, awd₉, ata₉, awl₉)) ∧ i ≤ j ∧ j < 8 ∧ smX (gI j C) K ∧ ∀ l, i ≤ l → l < j → ¬ smX (gI l C) K) ∨
        (∃ aw₉ ah₉ nw₉ aat₉ ag₉ ay₉ awd₉ ata₉ awl₉, f_BargeBasinModel_same_L60 (nI k) (nI (bn C.1)) kk ks kW kH kN kWl kK kA kS kY kG n (nI (i + 1)) aw2 ah2 nw2 aat2 ag2 ay2 awd2 ata2 awl2 = some (.inr (aw₉, ah₉, nw₉, aat₉, ag₉, ay₉, awd₉, ata₉, awl₉)) ∧ ∀ l, i ≤ l → l < 8 → ¬ smX (gI l C) K) := by
        intro Y aw2 ah2 nw2 aat2 ag2 ay2 awd2 ata2 awl2 q1 q2 q3 q4
        rcases ih (i + 1) n Y aw2 ah2 nw2 aat2 ag2 ay2 awd2 ata2 awl2 (by omega) (by omega) q1 q2 q3 q4 with ⟨j, aw₉, ah₉, nw₉, aat₉, ag₉, ay₉, awd₉, ata₉, awl₉, s1, s2, s3, s4, s5⟩ | ⟨aw₉, ah₉, nw₉, aat₉, ag₉, ay₉, awd₉, ata₉, awl₉, s1, s2⟩
        · refine Or.inl ⟨j, aw₉, ah₉, nw₉, aat₉, ag₉, ay₉, awd₉, ata₉, awl₉, s1, by omega, s3, s4, fun l h3 h4 => ?_⟩
          by_cases z : l = i
          · subst z; exact no
          · exact s5 l (by omega) h4
        · refine Or.inr ⟨aw₉, ah₉, nw₉, aat₉, ag₉, ay₉, awd₉, ata₉, awl₉, s1, fun l h3 h4 => ?_⟩
          by_cases z : l = i
          · subst z; exact no
          · exact s2 l (by omega) h4
      by_cases z3 : i = 3
      · obtain ⟨aw2, ah2, nw2, aat2, ag2, ay2, awd2, ata2, awl2, e2, a2⟩ := m_asTurned (ov := true) (X := tuX false X) (ok_tu ok) (fun b hb => (hk b hb).1) a1 nw1
        have e2₉ : f_BargeBasinModel_asTurned 1 (nI (bn C.1)) aw1 ah1 kk nw1 aat1 ag1 ay1 awd1 ata1 awl1 = some (aw2, ah2, nw2, aat2, ag2, ay2, awd2, ata2, awl2) := by rw [← hn]; exact e2
        rw [if_pos z3, ev_b _ e2₉, un9_ap]
        exact fin (tuX true (tuX false X)) _ _ _ _ _ _ _ _ _ (by rw [gI_s, if_pos z3, hx]) hn hk a2
      · rw [if_neg z3]
        exact fin (tuX false X) _ _ _ _ _ _ _ _ _ (by rw [gI_s, if_neg z3, hx]) hn hk a1
/-- the answer of same -/
def saX (C K : BP) (ans : Int32) : Prop := (smX C K ∧ ans = 1) ∨ (¬ smX C K ∧ orb C K ∧ ans = 2) ∨ (¬ smX C K ∧ ¬ orb C K ∧ ans = 0)
theorem g_orb {C K : BP} (hC : okX C) : orb C K ↔ ∃ j, j < 8 ∧ smX (gI j C) K := by
  have h4 := ok_qI hC 4
  have hM := ok_tu (ov := true) h4
  have sM : smX (tuX true (qI 4 C)) (tuX true C) := sm_tu h4 (q4_sm hC)
  constructor
  · rintro ⟨i, hi, q | q⟩
    · exact ⟨i, by omega, by unfold gI; rw [if_pos hi]; exact q⟩
    · refine ⟨4 + i, by omega, ?_⟩
      unfold gI
      rw [if_neg (by omega), show 4 + i - 4 = i by omega]
      exact sm_trans (sm_qI hM sM i) q
  · rintro ⟨j, hj, q⟩
    unfold gI at q
    by_cases z : j < 4
    · rw [if_pos z] at q; exact ⟨j, z, Or.inl q⟩
    · rw [if_neg z] at q
      exact ⟨j - 4, by omega, Or.inr (sm_trans (sm_symm (ok_qI hM _) (sm_qI hM sM _)) q)⟩
theorem m_same {C K : BP} {k : Nat} {iK kW kH kN kWl kK kA kS kY kG : Nat → Int32} {khas kw kh kn : Int32} {kwl kk kat ks ky kg : Nat → Int32} (hC : okX C) (hK : okX K) (hk4 : k < 4) (kp : kpR K.1 K.2 k iK kW kH kN kWl kK kA kS kY kG) (hr : rfX C.1 C.2 khas kw kh kn kwl kk kat ks ky kg) (st th aw ah : Int32) (nw aat ag ay awd ata awl : Nat → Int32) :
    ∃ ans aw₉ ah₉ nw₉ aat₉ ag₉ ay₉ awd₉ ata₉ awl₉, f_BargeBasinModel_same (nI k) st th khas kw kh kn aw ah kwl kk kat ks ky kg iK kW kH kN kWl kK kA kS kY kG nw aat ag ay awd ata awl = some (ans, 0, 0, aw₉, ah₉, nw₉, aat₉, ag₉, ay₉, awd₉, ata₉, awl₉) ∧ saX C K ans := by
  obtain ⟨aw1, ah1, aat1, ag1, ay1, awd1, ata1, awl1, e1, a1⟩ := m_asItIs hC hr aw ah aat ag ay awd ata awl
  have r1 := hr.1
  have r4 := hr.2.2.2.1
  have r6 := hr.2.2.2.2.2.1
  have k1 := kp.1
  subst r1
  have e3 : (nI k ≤ 3) = (k ≤ 3) := nI_leE (b := 3) (by omega) (by decide)
  unfold f_BargeBasinModel_same
  rw [if_neg (show ¬ (1 : Int32) = 0 by decide), if_neg (nI_nn (by omega)), if_pos (show nI k ≤ 3 by rw [e3]; omega), ev_grdN _ hk4 (by decide), nI_clamp (show k < 2 ^ 31 by omega), k1, if_neg (show ¬ (1 : Int32) = 0 by decide), ev_b _ e1, un8_ap, r4]
  rcases m_sameL (kk := kk) (ks := ks) hC hK hk4 kp 8 0 jN C aw1 ah1 nw aat1 ag1 ay1 awd1 ata1 awl1 (by omega) (by show 8 < 2000000; omega) rfl rfl (fun c hc => ⟨(r6 c hc).1, (r6 c hc).2.1⟩) a1 with ⟨j, aw₉, ah₉, nw₉, aat₉, ag₉, ay₉, awd₉, ata₉, awl₉, s1, s2, s3, s4, s5⟩ | ⟨aw₉, ah₉, nw₉, aat₉, ag₉, ay₉, awd₉, ata₉, awl₉, s1, s2⟩
  · rw [ev_b (x := f_BargeBasinModel_same_L60 (nI k) (nI (bn C.1)) kk ks kW kH kN kWl kK kA kS kY kG jN 0 aw1 ah1 nw aat1 ag1 ay1 awd1 ata1 awl1) _ s1, jsel_l, un10_ap]
    have j0 : (nI j = 0) = (j = 0) := nI_eqL (j := 0) (by omega) (by decide)
    simp only [j0]
    by_cases z : j = 0
    · subst z
      rw [if_pos rfl]
      exact ⟨1, aw₉, ah₉, nw₉, aat₉, ag₉, ay₉, awd₉, ata₉, awl₉, rfl, Or.inl ⟨s4, rfl⟩⟩
    · rw [if_neg z]
      exact ⟨2, aw₉, ah₉, nw₉, aat₉, ag₉, ay₉, awd₉, ata₉, awl₉, rfl, Or.inr (Or.inl ⟨s5 0 (Nat.le_refl _) (by omega), (g_orb hC).mpr ⟨j, s3, s4⟩, rfl⟩)⟩
  · rw [ev_b (x := f_BargeBasinModel_same_L60 (nI k) (nI (bn C.1)) kk ks kW kH kN kWl kK kA kS kY kG jN 0 aw1 ah1 nw aat1 ag1 ay1 awd1 ata1 awl1) _ s1, jsel_r, un9_ap]
    refine ⟨0, aw₉, ah₉, nw₉, aat₉, ag₉, ay₉, awd₉, ata₉, awl₉, rfl, Or.inr (Or.inr ⟨s2 0 (Nat.le_refl _) (by decide), fun z => ?_, rfl⟩)⟩
    obtain ⟨j, j1, j2⟩ := (g_orb hC).mp z
    exact s2 j (Nat.zero_le _) j1 j2
theorem s_same1 {C K : BP} {k a0 : Nat} {shelves : Nat → Option Nat} {cw chh cn : Int32} {cwl ct : Int64} {ck cp cl cg ca cwd chg : Nat → Int32} {cs : Nat → Int64} {dw dh dn : Int32} {dwl dt : Int64} {dk dp dl dg da dwd dhg : Nat → Int32} {ds : Nat → Int64} (hC : okX C) (hK : okX K) (hk4 : k < 4) (hs : shelves k = some a0) (x : chX C.1 C.2 cw chh cn cwl ct ck cp cl cg ca cwd chg cs) (y : chX K.1 K.2 dw dh dn dwl dt dk dp dl dg da dwd dhg ds) (st : Int32) (b1 d1 c1 : Int32) (w1 t1 : Int64) (k1 p1 l1 g1 a1 wd1 hg1 : Nat → Int32) (s1 : Nat → Int64) :
    ∃ ans b1₉ d1₉ c1₉ w1₉ t1₉ k1₉ p1₉ l1₉ g1₉ a1₉ wd1₉ hg1₉ s1₉, f_BargeBasin_same_sh1 a0 (nI k) st cw chh cn cwl ct ck cp cl cg ca cs b1 d1 c1 w1 t1 k1 p1 l1 g1 a1 wd1 hg1 s1 shelves dw dh dn dwl dt dk dp dl dg da dwd dhg ds = some (ans, 0, b1₉, d1₉, c1₉, w1₉, t1₉, k1₉, p1₉, l1₉, g1₉, a1₉, wd1₉, hg1₉, s1₉) ∧ saX C K ans := by
  obtain ⟨t, e1, e2⟩ := s_isSame hK hC y x
  obtain ⟨k2, p2, l2, g2, a2, wd2, hg2, s2, e3, y2⟩ := cp_chX hK.1 y b1 d1 c1 w1 t1 k1 p1 l1 g1 a1 wd1 hg1 s1
  obtain ⟨b, q1, q2, q3, q4, q5, q6, q7, q8, q9, q10, e4, e5⟩ := s_isSameTurned hK hC y2 x
  have e6 : (nI k < 4) = (k < 4) := nI_ltE (b := 4) (by omega) (by decide)
  unfold f_BargeBasin_same_sh1 jshS
  rw [show f_BargeBasin_hasNoBasin cw = some 0 by rw [x.1]; exact noBas hC.1, ev_b _ rfl, if_pos rfl, if_neg (nI_nn (by omega)), if_pos (show nI k < 4 by rw [e6]; exact hk4), ev_grdN _ hk4 (by decide), nI_clamp (show k < 2 ^ 31 by omega), if_pos hs, ev_b _ e1]
  cases t with
  | true =>
    rw [if_neg (show ¬ bI true = 0 by decide)]
    exact ⟨1, _, _, _, _, _, _, _, _, _, _, _, _, _, rfl, Or.inl ⟨sm_symm hK (e2.mp rfl), rfl⟩⟩
  | false =>
    have no : ¬ smX C K := fun z => by have := e2.mpr (sm_symm hC z); cases this
    rw [if_pos (show bI false = 0 by decide), ev_b _ e3, un13_ap, ev_b _ e4, un11_ap]
    cases b with
    | true => rw [if_neg (show ¬ bI true = 0 by decide)]; exact ⟨2, _, _, _, _, _, _, _, _, _, _, _, _, _, rfl, Or.inr (Or.inl ⟨no, orb_symm hK hC (e5.mp rfl), rfl⟩)⟩
    | false => rw [if_pos (show bI false = 0 by decide)]; exact ⟨0, _, _, _, _, _, _, _, _, _, _, _, _, _, rfl, Or.inr (Or.inr ⟨no, fun z => (by have := e5.mpr (orb_symm hC hK z); cases this), rfl⟩)⟩
theorem sa_u {C K : BP} {a b : Int32} (h1 : saX C K a) (h2 : saX C K b) : a = b := by
  rcases h1 with ⟨p, e⟩ | ⟨p, q, e⟩ | ⟨p, q, e⟩ <;> rcases h2 with ⟨r, f⟩ | ⟨r, s, f⟩ | ⟨r, s, f⟩ <;> first | exact e.trans f.symm | exact absurd r p | exact absurd p r | exact absurd q s | exact absurd s q
end
section
/-! trim: what both sides ask of a basin. -/
theorem bits_ex (p : Nat → Bool) : ∃ x : Int64, ∀ f, f < 64 → tb x f = p f := by
  have g : ∀ k, k ≤ 64 → ∃ x : Int64, ∀ f, f < 64 → tb x f = (p f && decide (f < k)) := by
    intro k
    induction k with
    | zero => intro _; exact ⟨0, fun f _ => by rw [tb_0]; simp⟩
    | succ k ih =>
      intro hk
      obtain ⟨x, hx⟩ := ih (by omega)
      cases e : p k with
      | false =>
        refine ⟨x, fun f hf => ?_⟩
        rw [hx f hf]
        by_cases z : f = k
        · subst z; rw [e]; rfl
        · congr 1; rw [decide_eq_decide]; omega
      | true =>
        refine ⟨x ||| jlshl 1 (nI k), fun f hf => ?_⟩
        rw [tb_or, hx f hf, tb_one (by omega)]
        by_cases z : f = k
        · subst z; rw [e]; simp
        · rw [decide_eq_false z, Bool.or_false]; congr 1; rw [decide_eq_decide]; omega
  obtain ⟨x, hx⟩ := g 64 (Nat.le_refl _)
  exact ⟨x, fun f hf => by rw [hx f hf, decide_eq_true hf, Bool.and_true]⟩
theorem chX_ex (B : Bas) (P : Nat → Nat) : ∃ cwl ct, chX B P (nI (bw B)) (nI (bh B)) (nI (bn B)) cwl ct (fun b => nI (bK B b)) (fun b => nI (P b)) (fun b => nI (bS B b)) (fun b => nI (bG B b)) (fun b => bI (decide (bY B b = 1))) (fun b => nI (xW B b)) (fun b => nI (xH B b)) (fun b => shp (xW B b) (xH B b)) := by
  obtain ⟨x, hx⟩ := bits_ex (bwl B)
  obtain ⟨y, hy⟩ := bits_ex (tkA B P)
  exact ⟨x, y, rfl, rfl, rfl, hx, hy, fun b _ => ⟨rfl, rfl, rfl, rfl, rfl⟩, fun b _ => rfl, fun b _ => rfl, fun b _ _ => rfl⟩
theorem bst_lt {B : Bas} {P : Nat → Nat} {b k : Nat} (h : basOk B) (hP : stC B P) (hl : (FL B 7 P).length ≤ 6000) (hb : bstX B P b k) : k < 6000 := by
  obtain ⟨cwl, ct, hc⟩ := chX_ex B P
  obtain ⟨r, f₉, qd₉, sp₉, w₉, h₉, n₉, wl₉, t₉, k₉, p₉, l₉, g₉, a₉, wd₉, hg₉, s₉, lo₉, hi₉, sl₉, fo₉, mv₉, di₉, qu₉, e, sc, q⟩ := s_fault11 (sg := false) (all := true) h hP hc (most := 7) rfl schI_0 0 0 0 0 0 0 0 (fun _ => 0) (fun _ => 0) (fun _ => 0) (fun _ => 0) (fun _ => 0) (fun _ => 0) (fun _ => 0) (fun _ => 0) (fun _ => 0) (fun _ => 0) (fun _ => 0) (fun _ => 0) (fun _ => 0)
  rcases q with ⟨q1, -⟩ | ⟨D, sx, -⟩
  · omega
  · obtain ⟨E, d1, d2, d3⟩ := hb
    have lt := (bestO_lt d2).1
    have := dist_uniq d1 sx.2.1 lt
    rw [d3] at this
    have := sx.2.2.2.1 b k lt this.symm
    omega
/-- some stand of those that can be come to is at least so far from being freed -/
def hrdP (B : Bas) (P : Nat → Nat) (least : Nat) : Prop := (FL B 7 P).length ≤ 6000 ∧ ∃ b k, bstX B P b k ∧ least ≤ k
theorem s_stays {B : Bas} {P : Nat → Nat} {least : Nat} {cw chh cn : Int32} {cwl ct : Int64} {ck cp cl cg ca cwd chg : Nat → Int32} {cs : Nat → Int64} (h : basOk B) (hP : stC B P) (hc : chX B P cw chh cn cwl ct ck cp cl cg ca cwd chg cs) (hle : least < 6000) {found : Int32} {slots for1 : Nat → Int32} (hs : schI found slots for1) (qd sp w0 h0 n0 : Int32) (wl0 t0 : Int64) (k0 p0 l0 g0 a0 wd0 hg0 : Nat → Int32) (s0 low high : Nat → Int64) (mv di qu : Nat → Int32) :
    ∃ (tt : Bool) (f₉ qd₉ sp₉ w₉ h₉ n₉ : Int32) (wl₉ t₉ : Int64) (k₉ p₉ l₉ g₉ a₉ wd₉ hg₉ : Nat → Int32) (s₉ lo₉ hi₉ : Nat → Int64) (sl₉ fo₉ mv₉ di₉ qu₉ : Nat → Int32), f_BargeBasin_staysAsHard_search11 (nI least) cw chh cn cwl ct ck cp cl cg ca cwd chg cs found qd sp w0 h0 n0 wl0 t0 k0 p0 l0 g0 a0 wd0 hg0 s0 low high slots for1 mv di qu = some (bI tt, f₉, qd₉, sp₉, w₉, h₉, n₉, wl₉, t₉, k₉, p₉, l₉, g₉, a₉, wd₉, hg₉, s₉, lo₉, hi₉, sl₉, fo₉, mv₉, di₉, qu₉) ∧ schI f₉ sl₉ fo₉ ∧ (tt = true ↔ hrdP B P least) := by
  obtain ⟨f1, sp1, t1, k1, p1, l1, g1, a1, wd1, hg1, s1, lo1, hi1, sl1, fo1, mv1, e1, cb, cg1, x1⟩ := s_explore h hP hc hs sp w0 h0 n0 wl0 t0 k0 p0 l0 g0 a0 wd0 hg0 s0 low high mv
  have sc := exS_sch x1
  unfold f_BargeBasin_staysAsHard_search11 f_BargeBasin_searcher_search11
  rw [ev_b _ rfl, un0_ap, ev_b _ e1, un21_ap]
  by_cases c : (FL B 7 P).length ≤ 6000
  · rw [decide_eq_true c, if_neg (show ¬ bI true = 0 by decide)]
    rcases x1 with ⟨y1, y2, y3⟩ | ⟨-, y2, -⟩
    · subst y2
      obtain ⟨qd2, t2, p2, mv2, di2, qu2, D, e2, d1, d2, d3⟩ := s_measure (sg := false) (most := 7) h y3 FL_nd cb cg1 hc.2.2.2.1 rfl qd t1 p1 mv1 di qu
      rw [show bI false = (0 : Int32) from rfl] at e2
      rw [ev_b _ e2, un6_ap, ev_b _ (s_farthest c d2 (fun u k hu e => by have := d3 u k hu e; omega))]
      cases eb : bestO D (FL B 7 P).length with
      | none =>
        have lt : oI ((none : Option Nat).bind D) < nI least := by
          show (-1 : Int32) < nI least
          rw [Int32.lt_iff_toInt_lt, nI_toInt (by omega), show (-1 : Int32).toInt = -1 by decide]
          omega
        rw [if_pos lt]
        refine ⟨false, _, _, _, _, _, _, _, _, _, _, _, _, _, _, _, _, _, _, _, _, _, _, _, rfl, sc, fun z => by (cases z), fun z => ?_⟩
        obtain ⟨-, b, k, ⟨E, f1, f2, f3⟩, -⟩ := z
        have nf := (bst_none d1).mp eb
        rw [(bst_none f1).mpr nf] at f2; cases f2
      | some b =>
        have l := bestO_lt eb
        obtain ⟨k, hk⟩ : ∃ k, D b = some k := by
          cases q : D b with
          | none => exact absurd q l.2
          | some k => exact ⟨k, rfl⟩
        have kb := d3 b k l.1 hk
        rw [show (some b).bind D = D b from rfl, hk, show oI (some k) = nI k from rfl]
        have lt : (nI k < nI least) = (k < least) := nI_ltE (by omega) (by omega)
        simp only [lt]
        have bx : bstX B P b k := ⟨D, d1, eb, hk⟩
        by_cases q : k < least
        · rw [if_pos q]
          refine ⟨false, _, _, _, _, _, _, _, _, _, _, _, _, _, _, _, _, _, _, _, _, _, _, _, rfl, sc, fun z => by (cases z), fun z => ?_⟩
          obtain ⟨-, b₉, k₉, hx, hl⟩ := z
          have := (bst_u bx hx).2
          omega
        · rw [if_neg q]
          exact ⟨true, _, _, _, _, _, _, _, _, _, _, _, _, _, _, _, _, _, _, _, _, _, _, _, rfl, sc, fun _ => ⟨c, b, k, bx, by omega⟩, fun _ => rfl⟩
    · omega
  · rw [decide_eq_false c, if_pos (show bI false = 0 by decide)]
    exact ⟨false, _, _, _, _, _, _, _, _, _, _, _, _, _, _, _, _, _, _, _, _, _, _, _, rfl, sc, fun z => by (cases z), fun z => absurd z.1 c⟩
theorem m_farNow {B : Bas} {P : Nat → Nat} {least : Nat} {kwl kk kat ks ky kg : Nat → Int32} (h : basOk B) (hP : stC B P) (hr : rfB B kk ks ky) (hwl : rfW B kwl) (hp : chP B P kat) (hg : chG B kg) (hle : least < 6000) (st0 ed0 : Int32) (kpl khd kch kdp kpr kbb kby kbs kf kfe ked keb kwho kh : Nat → Int32) :
    ∃ (s st ed : Int32) (kpl₉ khd₉ kch₉ kdp₉ kpr₉ kbb₉ kby₉ kbs₉ kf₉ kfe₉ ked₉ keb₉ kwho₉ kh₉ : Nat → Int32), f_BargeBasinModel_farNow (nI (bw B)) (nI (bh B)) (nI (bn B)) st0 ed0 kwl kk kat ks ky kg kpl khd kch kdp kpr kbb kby kbs kf kfe ked keb kwho kh = some (s, st, ed, kpl₉, khd₉, kch₉, kdp₉, kpr₉, kbb₉, kby₉, kbs₉, kf₉, kfe₉, ked₉, keb₉, kwho₉, kh₉) ∧ (¬ s < nI least ↔ hrdP B P least) ∧ ((s < 0 ∧ farX B P (-1) (-s) ∧ ¬ -s = 0) ∨ ((FL B 7 P).length ≤ 6000 ∧ ∃ b k, bstX B P b k ∧ k < 6000 ∧ s = nI k)) := by
  obtain ⟨s, sn₉, ed₉, b1, b2, b3, b4, b5, b6, b7, b8, b9, b10, b11, b12, b13, b14, e, x⟩ := m_hardest h hP hr hwl hp hg st0 ed0 kpl khd kch kdp kpr kbb kby kbs kf kfe ked keb kwho kh
  unfold f_BargeBasinModel_farNow
  rw [ev_b _ e, un17_ap]
  rcases hd_val x with ⟨y1, y2, y3⟩ | ⟨b, k, y1, y2, y3, y4, y5, -⟩
  · have ns : ¬ (0 : Int32) ≤ s := fun z => by rw [Int32.le_iff_toInt_le] at z; rw [Int32.lt_iff_toInt_lt] at y1; omega
    rw [if_neg ns]
    refine ⟨s, sn₉, ed₉, b1, b2, b3, b4, b5, b6, b7, b8, b9, b10, b11, b12, b13, b14, rfl, ⟨fun z => absurd ?_ z, fun z => ?_⟩, Or.inl ⟨y1, y2, y3⟩⟩
    · rw [Int32.lt_iff_toInt_lt] at y1 ⊢
      rw [nI_toInt (by omega)]
      have : (0 : Int32).toInt = 0 := rfl
      omega
    · obtain ⟨z1, b, k, z2, z3⟩ := z
      rcases y2 with ⟨w1, -, -⟩ | ⟨-, w2, -, -⟩ | ⟨-, b₉, k₉, w2, w3, w4⟩
      · omega
      · obtain ⟨E, f1, f2, f3⟩ := z2
        rw [(bst_none f1).mpr w2] at f2; cases f2
      · exact absurd w4 y3
  · subst y4
    rw [if_pos (nI_pos' (by omega)), ev_grdN _ (show b < 6001 by omega) (by decide), nI_clamp (by omega), y5]
    have kl := bst_lt h hP y1 y3
    have lt : (nI k < nI least) = (k < least) := nI_ltE (by omega) (by omega)
    refine ⟨nI k, sn₉, ed₉, b1, b2, b3, b4, b5, b6, b7, b8, b9, b10, b11, b12, b13, b14, rfl, ⟨fun z => ?_, fun z => ?_⟩, Or.inr ⟨y1, b, k, y3, kl, rfl⟩⟩
    · rw [lt] at z; exact ⟨y1, b, k, y3, by omega⟩
    · obtain ⟨-, b₉, k₉, hx, hl⟩ := z
      have := (bst_u y3 hx).2
      rw [lt]; omega
end
section
/-! trim: its loop over the barges. -/
noncomputable def hrdB (B : Bas) (P : Nat → Nat) (least : Nat) : Bool := @decide (hrdP B P least) (Classical.propDecidable _)
theorem hrdB_t {B : Bas} {P : Nat → Nat} {least : Nat} : hrdB B P least = true ↔ hrdP B P least := @decide_eq_true_iff _ (Classical.propDecidable _)
/-- barges b-1 .. 0 are taken away where the basin stays as hard -/
noncomputable def bT (least : Nat) : Nat → BP → BP
  | 0, X => X
  | b + 1, X => bT least b (if bK X.1 b ≠ 5 ∧ hrdB (dropB X.1 b) (dropP X.2 b) least = true then (dropB X.1 b, dropP X.2 b) else X)
theorem ok_drop {X : BP} {b : Nat} (h : okX X) (hb : b < bn X.1) : okX (dropB X.1 b, dropP X.2 b) := ⟨drop_bas h.1 hb, drop_st h.2.1 hb, h.2.2⟩
theorem ok_bT {least : Nat} : ∀ (b : Nat) (X : BP), b ≤ bn X.1 → okX X → okX (bT least b X) ∧ samW X.1 (bT least b X).1 ∧ bn (bT least b X).1 ≤ bn X.1
  | 0, X, _, h => ⟨h, ⟨rfl, rfl, rfl⟩, Nat.le_refl _⟩
  | b + 1, X, hb, h => by
    unfold bT
    by_cases c : bK X.1 b ≠ 5 ∧ hrdB (dropB X.1 b) (dropP X.2 b) least = true
    · rw [if_pos c]
      have n1 : bn (dropB X.1 b) = bn X.1 - 1 := rfl
      obtain ⟨q1, q2, q3⟩ := ok_bT (least := least) b (dropB X.1 b, dropP X.2 b) (by show b ≤ bn (dropB X.1 b); omega) (ok_drop h (by omega))
      have q3₉ : bn (bT least b (dropB X.1 b, dropP X.2 b)).1 ≤ bn (dropB X.1 b) := q3
      exact ⟨q1, q2, by omega⟩
    · rw [if_neg c]; exact ok_bT b X (by omega) h
theorem nI_m1 (c : Nat) : nI (c + 1) + (-1) = nI c := by
  rw [← nI_1, Int32.add_assoc]
  show nI c + ((1 : Int32) + (-1)) = nI c
  rw [show (1 : Int32) + (-1) = 0 by decide, Int32.add_zero]
theorem s_trB {least : Nat} {v3 v4 cw chh : Int32} {cwl : Int64} (hle : least < 6000) : ∀ (b n : Nat) (X : BP) (cn : Int32) (ct : Int64) (ck cp cl cg ca cwd chg : Nat → Int32) (cs : Nat → Int64) (b1 d1 c1 : Int32) (w1 t1 : Int64) (k1 p1 l1 g1 a1 wd1 hg1 : Nat → Int32) (s1 : Nat → Int64) (fo qd sp w0 h0 n0 : Int32) (wl0 t0 : Int64) (k0 p0 l0 g0 a0 wd0 hg0 : Nat → Int32) (s0 lo hi : Nat → Int64) (sl sf mv di qu : Nat → Int32), b ≤ bn X.1 → b < n → okX X → chX X.1 X.2 cw chh cn cwl ct ck cp cl cg ca cwd chg cs → schI fo sl sf →
    ∃ cn₉ ct₉ ck₉ cp₉ cl₉ cg₉ ca₉ cwd₉ chg₉ cs₉ b1₉ d1₉ c1₉ w1₉ t1₉ k1₉ p1₉ l1₉ g1₉ a1₉ wd1₉ hg1₉ s1₉ fo₉ qd₉ sp₉ w0₉ h0₉ n0₉ wl0₉ t0₉ k0₉ p0₉ l0₉ g0₉ a0₉ wd0₉ hg0₉ s0₉ lo₉ hi₉ sl₉ sf₉ mv₉ di₉ qu₉, f_BargeBasin_trim_search11_L50 (nI least) v3 v4 cw chh cwl n (nI b + (-1)) cn ct ck cp cl cg ca cwd chg cs b1 d1 c1 w1 t1 k1 p1 l1 g1 a1 wd1 hg1 s1 fo qd sp w0 h0 n0 wl0 t0 k0 p0 l0 g0 a0 wd0 hg0 s0 lo hi sl sf mv di qu = some (cn₉, ct₉, ck₉, cp₉, cl₉, cg₉, ca₉, cwd₉, chg₉, cs₉, b1₉, d1₉, c1₉, w1₉, t1₉, k1₉, p1₉, l1₉, g1₉, a1₉, wd1₉, hg1₉, s1₉, fo₉, qd₉, sp₉, w0₉, h0₉, n0₉, wl0₉, t0₉, k0₉, p0₉, l0₉, g0₉, a0₉, wd0₉, hg0₉, s0₉, lo₉, hi₉, sl₉, sf₉, mv₉, di₉, qu₉) ∧ chX (bT least b X).1 (bT least b X).2 cw chh cn₉ cwl ct₉ ck₉ cp₉ cl₉ cg₉ ca₉ cwd₉ chg₉ cs₉ ∧ schI fo₉ sl₉ sf₉ := by
  intro b
  induction b with
  | zero =>
    intro n X cn ct ck cp cl cg ca cwd chg cs b1 d1 c1 w1 t1 k1 p1 l1 g1 a1 wd1 hg1 s1 fo qd sp w0 h0 n0 wl0 t0 k0 p0 l0 g0 a0 wd0 hg0 s0 lo hi sl sf mv di qu hb hn h hc hs
    obtain ⟨n, rfl⟩ : ∃ z, n = z + 1 := ⟨n - 1, by omega⟩
    refine ⟨cn, ct, ck, cp, cl, cg, ca, cwd, chg, cs, b1, d1, c1, w1, t1, k1, p1, l1, g1, a1, wd1, hg1, s1, fo, qd, sp, w0, h0, n0, wl0, t0, k0, p0, l0, g0, a0, wd0, hg0, s0, lo, hi, sl, sf, mv, di, qu, ?_, hc, hs⟩
    rw [f_BargeBasin_trim_search11_L50, if_pos (show nI 0 + (-1) < 0 by decide)]
  | succ b ih =>
    intro n X cn ct ck cp cl cg ca cwd chg cs b1 d1 c1 w1 t1 k1 p1 l1 g1 a1 wd1 hg1 s1 fo qd sp w0 h0 n0 wl0 t0 k0 p0 l0 g0 a0 wd0 hg0 s0 lo hi sl sf mv di qu hb hn h hc hs
    obtain ⟨n, rfl⟩ : ∃ z, n = z + 1 := ⟨n - 1, by omega⟩
    have hb₉ : b < bn X.1 := by omega
    have n12 := h.1.2.2.2.2.1
    obtain ⟨z1, z2, -⟩ := basOk_wh h.1 hb₉
    obtain ⟨k2, p2, l2, g2, a2₉, wd2, hg2, s2, e1, y1⟩ := cp_chX h.1 hc b1 d1 c1 w1 t1 k1 p1 l1 g1 a1 wd1 hg1 s1
    obtain ⟨cn3, ct3, ck3, cp3, cl3, cg3, ca3, cwd3, chg3, cs3, e2, y2⟩ := s_drop h.1 h.2.1 y1 hb₉
    have c5 : (nI (bK X.1 b) = 5) = (bK X.1 b = 5) := nI_eqL (j := 5) (by omega) (by decide)
    rw [nI_m1, f_BargeBasin_trim_search11_L50, if_neg (nI_nn (by omega)), ev_b _ e1, un13_ap, ev_b _ e2, un10_ap, ev_grdN _ z1 (by decide), cl_nI z1, (hc.2.2.2.2.2.1 b hb₉).1]
    simp only [c5, ev_bnd]
    unfold bT
    by_cases k5 : bK X.1 b = 5
    · rw [if_pos k5, if_neg (fun z => z.1 k5)]
      exact ih n X _ _ _ _ _ _ _ _ _ _ _ _ _ _ _ _ _ _ _ _ _ _ _ _ _ _ _ _ _ _ _ _ _ _ _ _ _ _ _ _ _ _ _ _ _ _ (by omega) (by omega) h hc hs
    · have od := ok_drop h hb₉
      obtain ⟨tt, fo₉, qd₉, sp₉, w0₉, h0₉, n0₉, wl0₉, t0₉, k0₉, p0₉, l0₉, g0₉, a0₉, wd0₉, hg0₉, s0₉, lo₉, hi₉, sl₉, sf₉, mv₉, di₉, qu₉, e3, sc, t2⟩ := s_stays od.1 od.2.1 y2 hle hs qd sp w0 h0 n0 wl0 t0 k0 p0 l0 g0 a0 wd0 hg0 s0 lo hi mv di qu
      rw [if_neg k5, ev_b _ e3, un24_ap]
      cases tt with
      | false =>
        have nh : ¬ (bK X.1 b ≠ 5 ∧ hrdB (dropB X.1 b) (dropP X.2 b) least = true) := fun z => by have := t2.mpr (hrdB_t.mp z.2); cases this
        rw [if_pos (show bI false = 0 by decide), if_neg nh]
        exact ih n X _ _ _ _ _ _ _ _ _ _ _ _ _ _ _ _ _ _ _ _ _ _ _ _ _ _ _ _ _ _ _ _ _ _ _ _ _ _ _ _ _ _ _ _ _ _ (by omega) (by omega) h hc sc
      | true =>
        have yh : bK X.1 b ≠ 5 ∧ hrdB (dropB X.1 b) (dropP X.2 b) least = true := ⟨k5, hrdB_t.mpr (t2.mp rfl)⟩
        obtain ⟨cn4, ct4, ck4, cp4, cl4, cg4, ca4, cwd4, chg4, cs4, e4, y4⟩ := s_drop h.1 h.2.1 hc hb₉
        have n1 : bn (dropB X.1 b) = bn X.1 - 1 := rfl
        rw [if_neg (show ¬ bI true = 0 by decide), ev_b _ e4, un10_ap, if_pos yh]
        exact ih n (dropB X.1 b, dropP X.2 b) _ _ _ _ _ _ _ _ _ _ _ _ _ _ _ _ _ _ _ _ _ _ _ _ _ _ _ _ _ _ _ _ _ _ _ _ _ _ _ _ _ _ _ _ _ _ (by show b ≤ bn (dropB X.1 b); omega) (by omega) od y4 sc
end
