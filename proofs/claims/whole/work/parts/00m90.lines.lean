/-! Lines: what both sides hold of them; basin, get of both sides. -/
/-- what the reference's lines say of field x of row y -/
def wlL (lm ln : Nat → Int32) (y x : Nat) : Bool := if lm y < 0 then false else if lm y ≤ nI x then true else decide (¬ ln (8 * y + x) = 0)
/-- a row: missing on both sides, or of the same sort, size and numbers -/
def lnY (csort csize cnum lsort lmany lnum : Nat → Int32) (y : Nat) : Prop := (csort y = -1 ∧ lmany y < 0) ∨ (∃ t m, t < 3 ∧ m ≤ 8 ∧ csort y = nI t ∧ lsort y = nI t ∧ csize y = nI m ∧ lmany y = nI m ∧ ∀ i, i < m → cnum (8 * y + i) = lnum (8 * y + i))
def lnR (B : Bas) (csort csize cnum lsort lmany lnum : Nat → Int32) : Prop := (∀ y, y < 8 → lnY csort csize cnum lsort lmany lnum y) ∧ (∀ y x, y < bh B → x < bw B → bwl B (x + 8 * y) = wlL lmany lnum y x) ∧ (∀ f, f < 64 → (bw B ≤ f % 8 ∨ bh B ≤ f / 8) → bwl B f = false) ∧ (∀ y, bh B ≤ y → y < 8 → lmany y < 0)
theorem s_tearL : ∀ (d i n : Nat) (kw : Nat → Int32), i + d = 8 → d < n → f_Lines_tearAll_L2 n (nI i) kw = some (fun f => if i ≤ f ∧ f < 8 then -1 else kw f) := by
  intro d
  induction d with
  | zero =>
    intro i n kw h hn
    obtain ⟨m, rfl⟩ : ∃ m, n = m + 1 := ⟨n - 1, by omega⟩
    have e : i = 8 := by omega
    subst e
    rw [f_Lines_tearAll_L2, if_pos (show (8 : Int32) ≤ nI 8 by decide)]
    refine congrArg some (funext fun f => ?_)
    rw [if_neg (by omega)]
  | succ d ih =>
    intro i n kw h hn
    obtain ⟨m, rfl⟩ : ∃ m, n = m + 1 := ⟨n - 1, by omega⟩
    have t : f_Lines_tearOff (nI i) kw = some (upd kw i (-1)) := by
      unfold f_Lines_tearOff
      rw [ev_grdN _ (show i < 8 by omega) (by decide), nI_clamp (show i < 2 ^ 31 by omega)]
    rw [f_Lines_tearAll_L2, if_neg (show ¬ (8 : Int32) ≤ nI i from nI_ge (b := 8) (show i < 8 by omega) (by decide)), ev_b _ t, ev_bnd, nI_1, ih (i + 1) m _ (by omega) (by omega)]
    refine congrArg some (funext fun f => ?_)
    by_cases a : f = i
    · subst a
      rw [if_neg (by omega), if_pos (by omega), pk_us]
    · rw [pk_un a]
      by_cases c : i + 1 ≤ f ∧ f < 8
      · rw [if_pos c, if_pos (by omega)]
      · rw [if_neg c, if_neg (by omega)]
theorem s_tearAll (kw : Nat → Int32) : f_Lines_tearAll kw = some (fun f => if f < 8 then -1 else kw f) := by
  have e := s_tearL 8 0 jN kw (by omega) (by show 8 < 2000000; omega)
  unfold f_Lines_tearAll
  rw [ev_b _ (show f_Lines_tearAll_L2 jN 0 kw = _ from e)]
  refine congrArg some (funext fun f => ?_)
  by_cases c : f < 8
  · rw [if_pos ⟨Nat.zero_le _, c⟩, if_pos c]
  · rw [if_neg (fun q => c q.2), if_neg c]
theorem m_basL60 : ∀ (d i n : Nat) (kw : Nat → Int32), i + d = 8 → d < n → f_BargeBasinModel_basin_L60 n (nI i) kw = some (fun f => if i ≤ f ∧ f < 8 then -1 else kw f) := by
  intro d
  induction d with
  | zero =>
    intro i n kw h hn
    obtain ⟨m, rfl⟩ : ∃ m, n = m + 1 := ⟨n - 1, by omega⟩
    have e : i = 8 := by omega
    subst e
    rw [f_BargeBasinModel_basin_L60, if_pos (show (8 : Int32) ≤ nI 8 by decide)]
    refine congrArg some (funext fun f => ?_)
    rw [if_neg (by omega)]
  | succ d ih =>
    intro i n kw h hn
    obtain ⟨m, rfl⟩ : ∃ m, n = m + 1 := ⟨n - 1, by omega⟩
    rw [f_BargeBasinModel_basin_L60, if_neg (show ¬ (8 : Int32) ≤ nI i from nI_ge (b := 8) (show i < 8 by omega) (by decide)), ev_grdN _ (show i < 8 by omega) (by decide), ev_bnd, nI_1, nI_clamp (show i < 2 ^ 31 by omega), ih (i + 1) m _ (by omega) (by omega)]
    refine congrArg some (funext fun f => ?_)
    by_cases a : f = i
    · subst a
      rw [if_neg (by omega), if_pos (by omega), pk_us]
    · rw [pk_un a]
      by_cases c : i + 1 ≤ f ∧ f < 8
      · rw [if_pos c, if_pos (by omega)]
      · rw [if_neg c, if_neg (by omega)]
theorem m_basL81 : ∀ (d i n : Nat) (kw : Nat → Int32), i + d = 64 → d < n → f_BargeBasinModel_basin_L81 n (nI i) kw = some (fun f => if i ≤ f ∧ f < 64 then 0 else kw f) := by
  intro d
  induction d with
  | zero =>
    intro i n kw h hn
    obtain ⟨m, rfl⟩ : ∃ m, n = m + 1 := ⟨n - 1, by omega⟩
    have e : i = 64 := by omega
    subst e
    rw [f_BargeBasinModel_basin_L81, if_pos (show (64 : Int32) ≤ nI 64 by decide)]
    refine congrArg some (funext fun f => ?_)
    rw [if_neg (by omega)]
  | succ d ih =>
    intro i n kw h hn
    obtain ⟨m, rfl⟩ : ∃ m, n = m + 1 := ⟨n - 1, by omega⟩
    rw [f_BargeBasinModel_basin_L81, if_neg (show ¬ (64 : Int32) ≤ nI i from nI_ge (b := 64) (show i < 64 by omega) (by decide)), ev_grdN _ (show i < 64 by omega) (by decide), ev_bnd, nI_1, nI_clamp (show i < 2 ^ 31 by omega), show vp_nar .boolean (0 : Int32) = 0 from nar_bI false, ih (i + 1) m _ (by omega) (by omega)]
    refine congrArg some (funext fun f => ?_)
    by_cases a : f = i
    · subst a
      rw [if_neg (by omega), if_pos (by omega), pk_us]
    · rw [pk_un a]
      by_cases c : i + 1 ≤ f ∧ f < 64
      · rw [if_pos c, if_pos (by omega)]
      · rw [if_neg c, if_neg (by omega)]
theorem eq_basin (v1 v2 st : Int32) (csort : Nat → Int32) (cw chh cn : Int32) (cwl ct : Int64) (ld lu : Int32) (st2 th khas kw kh kn um rm : Int32) (lmany kwl : Nat → Int32) :
    (∃ w hh, 3 ≤ w ∧ w ≤ 8 ∧ 3 ≤ hh ∧ hh ≤ 8 ∧ v1 = nI w ∧ v2 = nI hh ∧ f_BargeBasin_basin v1 v2 st csort cw chh cn cwl ct ld lu = some (1, 0, (fun f => if f < 8 then -1 else csort f), nI w, nI hh, 0, 0, 0, 0, 0) ∧
      f_BargeBasinModel_basin v1 v2 st2 th khas kw kh kn um rm lmany kwl = some (1, 0, 0, 1, nI w, nI hh, 0, 0, 0, (fun f => if 0 ≤ f ∧ f < 8 then -1 else lmany f), (fun f => if 0 ≤ f ∧ f < 64 then 0 else kwl f))) ∨
    (f_BargeBasin_basin v1 v2 st csort cw chh cn cwl ct ld lu = some (0, 2, csort, cw, chh, cn, cwl, ct, ld, lu) ∧ f_BargeBasinModel_basin v1 v2 st2 th khas kw kh kn um rm lmany kwl = some (0, 2, 0, khas, kw, kh, kn, um, rm, lmany, kwl)) := by
  have t3 : (3 : Int32).toInt = 3 := by decide
  have t8 : (8 : Int32).toInt = 8 := by decide
  have t0 : (0 : Int32).toInt = 0 := rfl
  by_cases a1 : v1 < 3
  · right
    unfold f_BargeBasin_basin f_BargeBasinModel_basin
    rw [if_pos a1, if_pos a1]; exact ⟨rfl, rfl⟩
  by_cases a2 : (8 : Int32) < v1
  · right
    unfold f_BargeBasin_basin f_BargeBasinModel_basin
    rw [if_neg a1, if_neg a1, if_pos a2, if_pos a2]; exact ⟨rfl, rfl⟩
  by_cases a3 : v2 < 3
  · right
    unfold f_BargeBasin_basin f_BargeBasinModel_basin
    rw [if_neg a1, if_neg a1, if_neg a2, if_neg a2, if_pos a3, if_pos a3]; exact ⟨rfl, rfl⟩
  by_cases a4 : v2 ≤ 8
  · left
    have b1 : ¬ v1.toInt < 3 := fun z => a1 (by rw [Int32.lt_iff_toInt_lt, t3]; exact z)
    have b2 : ¬ 8 < v1.toInt := fun z => a2 (by rw [Int32.lt_iff_toInt_lt, t8]; exact z)
    have b3 : ¬ v2.toInt < 3 := fun z => a3 (by rw [Int32.lt_iff_toInt_lt, t3]; exact z)
    have b4 : v2.toInt ≤ 8 := by rw [Int32.le_iff_toInt_le, t8] at a4; exact a4
    obtain ⟨w, hw, ew⟩ := nI_of (x := v1) (fun z => by rw [Int32.lt_iff_toInt_lt, t0] at z; omega)
    obtain ⟨hh, hhh, eh⟩ := nI_of (x := v2) (fun z => by rw [Int32.lt_iff_toInt_lt, t0] at z; omega)
    rw [ew, nI_toInt (by omega)] at b1 b2
    rw [eh, nI_toInt (by omega)] at b3 b4
    refine ⟨w, hh, by omega, by omega, by omega, by omega, ew, eh, ?_, ?_⟩
    · unfold f_BargeBasin_basin
      rw [if_neg a1, if_neg a2, if_neg a3, if_pos a4, ev_b _ (s_tearAll csort), ew, eh]; rfl
    · have e1 := m_basL60 8 0 jN lmany (by omega) (by show 8 < 2000000; omega)
      have e2 := m_basL81 64 0 jN kwl (by omega) (by show 64 < 2000000; omega)
      unfold f_BargeBasinModel_basin
      rw [if_neg a1, if_neg a2, if_neg a3, if_pos a4, ev_b _ (show f_BargeBasinModel_basin_L60 jN 0 lmany = _ from e1), ev_b _ (show f_BargeBasinModel_basin_L81 jN 0 kwl = _ from e2), ew, eh]; rfl
  · right
    unfold f_BargeBasin_basin f_BargeBasinModel_basin
    rw [if_neg a1, if_neg a1, if_neg a2, if_neg a2, if_neg a3, if_neg a3, if_neg a4, if_neg a4]; exact ⟨rfl, rfl⟩
/-! The basin that basin() makes. -/
def empB (w hh : Nat) : Bas := (w, hh, 0, fun _ => 0, fun _ => 0, fun _ => 0, fun _ => 0, fun _ => false)
theorem emp_bas {w hh : Nat} (h1 : 3 ≤ w) (h2 : w ≤ 8) (h3 : 3 ≤ hh) (h4 : hh ≤ 8) : basOk (empB w hh) := ⟨h1, h2, h3, h4, Nat.zero_le _, fun b hb => absurd hb (Nat.not_lt_zero b), fun b hb => absurd hb (Nat.not_lt_zero b)⟩
theorem emp_st {w hh : Nat} : stC (empB w hh) (fun _ => 0) := ⟨⟨fun b hb => absurd hb (Nat.not_lt_zero b), fun b c f hb => absurd hb (Nat.not_lt_zero b), fun b f hb => absurd hb (Nat.not_lt_zero b)⟩, fun _ _ => rfl, fun b hb => absurd hb (Nat.not_lt_zero b)⟩
theorem emp_ch {w hh : Nat} (ck cp cl cg ca cwd chg : Nat → Int32) (cs : Nat → Int64) : chX (empB w hh) (fun _ => 0) (nI w) (nI hh) 0 0 0 ck cp cl cg ca cwd chg cs :=
  ⟨rfl, rfl, rfl, fun f hf => tb_0 f, fun f hf => tb_0 f, fun b hb => absurd hb (Nat.not_lt_zero b), fun b hb => absurd hb (Nat.not_lt_zero b), fun b hb => absurd hb (Nat.not_lt_zero b), fun b hb => absurd hb (Nat.not_lt_zero b)⟩
theorem emp_rf {w hh : Nat} (kwl kk kat ks ky kg : Nat → Int32) : rfX (empB w hh) (fun _ => 0) 1 (nI w) (nI hh) 0 (fun f => if 0 ≤ f ∧ f < 64 then 0 else kwl f) kk kat ks ky kg :=
  ⟨rfl, rfl, rfl, rfl, fun f hf => if_pos ⟨Nat.zero_le _, hf⟩, fun b hb => absurd hb (Nat.not_lt_zero b), fun b hb => absurd hb (Nat.not_lt_zero b), fun b hb => absurd hb (Nat.not_lt_zero b)⟩
theorem emp_ln {w hh : Nat} (h4 : hh ≤ 8) (csort csize cnum lsort lmany lnum : Nat → Int32) : lnR (empB w hh) (fun f => if f < 8 then -1 else csort f) csize cnum lsort (fun f => if 0 ≤ f ∧ f < 8 then -1 else lmany f) lnum := by
  refine ⟨fun y hy => Or.inl ⟨if_pos hy, ?_⟩, fun y x hy hx => ?_, fun _ _ _ => rfl, fun y _ hy => by show (if 0 ≤ y ∧ y < 8 then (-1 : Int32) else lmany y) < 0; rw [if_pos ⟨Nat.zero_le _, hy⟩]; decide⟩
  · show (if 0 ≤ y ∧ y < 8 then (-1 : Int32) else lmany y) < 0
    rw [if_pos ⟨Nat.zero_le _, hy⟩]; decide
  · have hy' : y < hh := hy
    show false = wlL _ _ _ _
    unfold wlL
    rw [if_pos (show (if 0 ≤ y ∧ y < 8 then (-1 : Int32) else lmany y) < 0 by rw [if_pos ⟨Nat.zero_le _, by omega⟩]; decide)]
/-! A line's number; get. -/
theorem lin {B : Bas} {v1 : Int32} (h : basOk B) : (∃ y, y < bh B ∧ v1 = nI y ∧ f_BargeBasin_isNoLine v1 (nI (bh B)) = some 0 ∧ f_BargeBasinModel_isLine v1 (nI (bh B)) = some 1) ∨ (f_BargeBasin_isNoLine v1 (nI (bh B)) = some 1 ∧ f_BargeBasinModel_isLine v1 (nI (bh B)) = some 0) := by
  have h8 := h.2.2.2.1
  unfold f_BargeBasin_isNoLine f_BargeBasinModel_isLine
  by_cases a : v1 < 0
  · rw [if_pos a, if_pos a]; exact Or.inr ⟨rfl, rfl⟩
  · rw [if_neg a, if_neg a]
    obtain ⟨y, hy, e⟩ := nI_of (x := v1) a
    subst e
    have e1 : (nI y < nI (bh B)) = (y < bh B) := nI_ltE (by omega) (by omega)
    have e2 : (nI (bh B) ≤ nI y) = (bh B ≤ y) := nI_leE (by omega) (by omega)
    simp only [e1, e2]
    by_cases c : y < bh B
    · rw [if_pos c, if_neg (by omega)]; exact Or.inl ⟨y, c, rfl, rfl, rfl⟩
    · rw [if_neg c, if_pos (by omega)]; exact Or.inr ⟨rfl, rfl⟩
theorem nI_nn {m : Nat} (hm : m < 2 ^ 31) : ¬ nI m < 0 := Int32.not_lt.mpr (show (0 : Int32) ≤ nI m from nI_le (a := 0) (Nat.zero_le m) hm)
theorem neg1 {t : Nat} (ht : t < 3) : ¬ nI t = (-1 : Int32) := by
  have : t = 0 ∨ t = 1 ∨ t = 2 := by omega
  rcases this with e | e | e <;> subst e <;> decide
theorem s_missing {csort csize cnum lsort lmany lnum : Nat → Int32} {y : Nat} (hy : y < 8) (h : lnY csort csize cnum lsort lmany lnum y) : f_Lines_isMissing (nI y) csort = some (bI (decide (lmany y < 0))) := by
  unfold f_Lines_isMissing
  rw [ev_grdN _ hy (by decide), nI_clamp (show y < 2 ^ 31 by omega)]
  rcases h with ⟨a, b⟩ | ⟨t, m, t3, m8, a, a2, a3, a4, -⟩
  · rw [if_pos a, decide_eq_true b]; rfl
  · rw [a, a4, if_neg (neg1 t3), decide_eq_false (show ¬ nI m < 0 from nI_nn (by omega))]; rfl
/-- the fault of a number: 0 and its place, or the same word -/
theorem numF {B : Bas} {csort csize cnum lsort lmany lnum : Nat → Int32} {v1 v2 : Int32} (h : basOk B) (hl : lnR B csort csize cnum lsort lmany lnum) :
    (∃ y i t m, y < bh B ∧ i < m ∧ m ≤ 8 ∧ t < 3 ∧ v1 = nI y ∧ v2 = nI i ∧ csort y = nI t ∧ lsort y = nI t ∧ csize y = nI m ∧ lmany y = nI m ∧ (∀ i, i < m → cnum (8 * y + i) = lnum (8 * y + i)) ∧ f_BargeBasin_faultOfNumber v1 v2 csort csize (nI (bw B)) (nI (bh B)) = some 0 ∧ f_BargeBasinModel_numbered v1 v2 1 (nI (bh B)) lmany = some 0) ∨
    (∃ r, 0 < r ∧ r < 10 ∧ f_BargeBasin_faultOfNumber v1 v2 csort csize (nI (bw B)) (nI (bh B)) = some (nI r) ∧ f_BargeBasinModel_numbered v1 v2 1 (nI (bh B)) lmany = some (nI r)) := by
  have h8 := h.2.2.2.1
  unfold f_BargeBasin_faultOfNumber f_BargeBasin_faultOfLine f_BargeBasinModel_numbered
  rw [ev_b _ (noBas h), if_pos rfl, if_neg (show ¬ (1 : Int32) = 0 by decide)]
  rcases lin (v1 := v1) h with ⟨y, hy, e, l1, l2⟩ | ⟨l1, l2⟩
  · subst e
    have y8 : y < 8 := by omega
    rw [ev_b _ l1, ev_b _ l2, if_pos rfl, if_neg (show ¬ (1 : Int32) = 0 by decide), ev_b _ (s_missing y8 (hl.1 y y8)), ev_grdN _ y8 (by decide), ev_grdN _ y8 (by decide), ev_grdN _ y8 (by decide), nI_clamp (show y < 2 ^ 31 by omega)]
    rcases hl.1 y y8 with ⟨a, b⟩ | ⟨t, m, t3, m8, a, a2, a3, a4, a5⟩
    · rw [decide_eq_true b, if_neg (show ¬ bI true = 0 by decide), if_neg (show ¬ 0 ≤ lmany y from fun z => absurd b (Int32.not_lt.mpr z))]
      exact Or.inr ⟨3, by decide, by decide, rfl, rfl⟩
    · rw [a3, a4, decide_eq_false (show ¬ nI m < 0 from nI_nn (by omega)), if_pos (show bI false = 0 by decide), if_pos (show (0 : Int32) ≤ nI m from nI_le (Nat.zero_le m) (by omega)), ev_b _ (rfl : some (0 : Int32) = some 0), if_pos rfl]
      by_cases c : v2 < 0
      · rw [if_pos c]; exact Or.inr ⟨4, by decide, by decide, rfl, rfl⟩
      · rw [if_neg c]
        obtain ⟨i, hi, e⟩ := nI_of (x := v2) c
        subst e
        have e1 : (nI i < nI m) = (i < m) := nI_ltE (by omega) (by omega)
        simp only [e1]
        by_cases q : i < m
        · rw [if_pos q]; exact Or.inl ⟨y, i, t, m, hy, q, m8, t3, rfl, rfl, a, a2, a3, a4, a5, rfl, rfl⟩
        · rw [if_neg q]; exact Or.inr ⟨4, by decide, by decide, rfl, rfl⟩
  · rw [ev_b _ l1, ev_b _ l2, if_pos rfl, if_neg (show ¬ (1 : Int32) = 0 by decide)]
    exact Or.inr ⟨2, by decide, by decide, rfl, rfl⟩
theorem eq_get {B : Bas} {csort csize cnum lsort lmany lnum : Nat → Int32} (h : basOk B) (hl : lnR B csort csize cnum lsort lmany lnum) (v1 v2 st st2 th : Int32) :
    ∃ ans st', f_BargeBasin_get v1 v2 st csort csize cnum (nI (bw B)) (nI (bh B)) = some (ans, st') ∧ f_BargeBasinModel_get v1 v2 st2 th 1 (nI (bh B)) lmany lnum = some (ans, st', 0) := by
  have h8 := h.2.2.2.1
  unfold f_BargeBasin_get f_BargeBasinModel_get
  rcases numF (v1 := v1) (v2 := v2) h hl with ⟨y, i, t, m, hy, hi, m8, t3, e1, e2, a1, a2, a3, a4, a5, f1, f2⟩ | ⟨r, r0, r1, f1, f2⟩
  · rw [ev_b _ f1, ev_b _ f2, if_pos rfl, if_pos (show (0 : Int32) ≤ 0 by decide), e1, e2]
    have e8 : (8 : Int32) * nI y + nI i = nI (8 * y + i) := by rw [i8, nI_add]
    have nm : f_Lines_number (nI y) (nI i) cnum = some (cnum (8 * y + i)) := by
      unfold f_Lines_number
      rw [e8, ev_grdN _ (show 8 * y + i < 64 by omega) (by decide), nI_clamp (by omega)]
    rw [ev_b _ nm, e8, ev_grdN _ (show 8 * y + i < 64 by omega) (by decide), nI_clamp (by omega), a5 i hi]
    exact ⟨_, _, rfl, rfl⟩
  · have e1 : (nI r = 0) = (r = 0) := nI_eqL (j := 0) (by omega) (by decide)
    have e2 : (nI r ≤ 0) = (r ≤ 0) := nI_leE (b := 0) (by omega) (by decide)
    rw [ev_b _ f1, ev_b _ f2]
    simp only [e1, e2]
    rw [if_neg (by omega), if_neg (by omega)]
    exact ⟨_, _, rfl, rfl⟩
