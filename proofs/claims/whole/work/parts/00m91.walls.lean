/-! A row's walls, out of its line: reference and class. -/
theorem m_isWallAt {lm ln : Nat → Int32} {x y : Nat} (hx : x < 8) (hy : y < 8) : f_BargeBasinModel_isWallAt (nI x) (nI y) lm ln = some (bI (wlL lm ln y x)) := by
  have e : (8 : Int32) * nI y + nI x = nI (8 * y + x) := by rw [i8, nI_add]
  unfold f_BargeBasinModel_isWallAt wlL
  rw [ev_grdN _ hy (by decide), ev_grdN _ hy (by decide), e, ev_grdN _ (show 8 * y + x < 64 by omega) (by decide), nI_clamp (show y < 2 ^ 31 by omega), nI_clamp (show 8 * y + x < 2 ^ 31 by omega)]
  by_cases c1 : lm y < 0
  · rw [if_pos c1, if_pos c1]; rfl
  · rw [if_neg c1, if_neg c1]
    by_cases c2 : lm y ≤ nI x
    · rw [if_pos c2, if_pos c2]; rfl
    · rw [if_neg c2, if_neg c2]
      by_cases c3 : ln (8 * y + x) = 0
      · rw [if_pos c3, decide_eq_false (fun z => z c3)]; rfl
      · rw [if_neg c3, decide_eq_true c3]; rfl
theorem m_wallsL {lm ln : Nat → Int32} {y w : Nat} (hw : w ≤ 8) (hy : y < 8) : ∀ (d x n : Nat) (kw : Nat → Int32), x + d = w → d < n → f_BargeBasinModel_walls_L2 (nI y) (nI w) lm ln n (nI x) kw = some (fun f => if f / 8 = y ∧ x ≤ f % 8 ∧ f % 8 < w then bI (wlL lm ln y (f % 8)) else kw f) := by
  intro d
  induction d with
  | zero =>
    intro x n kw h hn
    obtain ⟨m, rfl⟩ : ∃ m, n = m + 1 := ⟨n - 1, by omega⟩
    have e : x = w := by omega
    subst e
    rw [f_BargeBasinModel_walls_L2, if_pos (nI_le (Nat.le_refl _) (by omega))]
    refine congrArg some (funext fun f => ?_)
    rw [if_neg (by omega)]
  | succ d ih =>
    intro x n kw h hn
    obtain ⟨m, rfl⟩ : ∃ m, n = m + 1 := ⟨n - 1, by omega⟩
    have e : nI x + (8 : Int32) * nI y = nI (x + 8 * y) := by rw [i8, nI_add]
    rw [f_BargeBasinModel_walls_L2, if_neg (nI_ge (show x < w by omega) (by omega)), ev_b _ (m_isWallAt (show x < 8 by omega) hy), e, ev_grdN _ (show x + 8 * y < 64 by omega) (by decide), ev_bnd, nI_1, nI_clamp (show x + 8 * y < 2 ^ 31 by omega), nar_bI, ih (x + 1) m _ (by omega) (by omega)]
    refine congrArg some (funext fun f => ?_)
    by_cases a : f = x + 8 * y
    · have e8 : f % 8 = x := by omega
      rw [if_neg (by omega), if_pos (by omega), a, pk_us, ← a, e8]
    · rw [pk_un a]
      by_cases c : f / 8 = y ∧ x + 1 ≤ f % 8 ∧ f % 8 < w
      · rw [if_pos c, if_pos (by omega)]
      · rw [if_neg c, if_neg (by omega)]
theorem m_walls {lm ln : Nat → Int32} {y w : Nat} (hw : w ≤ 8) (hy : y < 8) (kw : Nat → Int32) : f_BargeBasinModel_walls (nI y) (nI w) lm ln kw = some (fun f => if f / 8 = y ∧ 0 ≤ f % 8 ∧ f % 8 < w then bI (wlL lm ln y (f % 8)) else kw f) := by
  have e := m_wallsL (lm := lm) (ln := ln) hw hy w 0 jN kw (by omega) (by show w < 2000000; omega)
  unfold f_BargeBasinModel_walls
  rw [ev_b _ (show f_BargeBasinModel_walls_L2 (nI y) (nI w) lm ln jN 0 kw = _ from e)]
theorem m_underL {lm ln : Nat → Int32} {y w : Nat} {kwho : Nat → Int32} {wo : Nat → Option Nat} (hwo : ∀ f, f < 64 → kwho f = oI (wo f)) (ho : ∀ f c, wo f = some c → c < 12) (hw : w ≤ 8) (hy : y < 8) : ∀ (d x n : Nat), x + d = w → d < n → ∃ t : Bool, f_BargeBasinModel_isUnder_L6 (nI y) (nI w) lm ln kwho n (nI x) = some (if t then .inl () else .inr ()) ∧ (t = true ↔ ∃ u, x ≤ u ∧ u < w ∧ wlL lm ln y u = true ∧ wo (u + 8 * y) ≠ none) := by
  intro d
  induction d with
  | zero =>
    intro x n h hn
    obtain ⟨m, rfl⟩ : ∃ m, n = m + 1 := ⟨n - 1, by omega⟩
    have e : x = w := by omega
    subst e
    refine ⟨false, ?_, fun z => by (cases z), fun ⟨u, u1, u2, _⟩ => by omega⟩
    rw [f_BargeBasinModel_isUnder_L6, if_pos (nI_le (Nat.le_refl _) (by omega))]; rfl
  | succ d ih =>
    intro x n h hn
    obtain ⟨m, rfl⟩ : ∃ m, n = m + 1 := ⟨n - 1, by omega⟩
    have e : nI x + (8 : Int32) * nI y = nI (x + 8 * y) := by rw [i8, nI_add]
    obtain ⟨t, e1, q⟩ := ih (x + 1) m (by omega) (by omega)
    have neg := oI_neg (o := wo (x + 8 * y)) (fun c z => by have := ho _ _ z; omega)
    rw [f_BargeBasinModel_isUnder_L6, if_neg (nI_ge (show x < w by omega) (by omega)), ev_b _ (m_isWallAt (show x < 8 by omega) hy), e, ev_grdN _ (show x + 8 * y < 64 by omega) (by decide), nI_clamp (show x + 8 * y < 2 ^ 31 by omega), hwo _ (by omega)]
    simp only [ev_bnd, nI_1, neg]
    have rest : (∃ u, x + 1 ≤ u ∧ u < w ∧ wlL lm ln y u = true ∧ wo (u + 8 * y) ≠ none) → ∃ u, x ≤ u ∧ u < w ∧ wlL lm ln y u = true ∧ wo (u + 8 * y) ≠ none := fun ⟨u, u1, u2, u3⟩ => ⟨u, by omega, u2, u3⟩
    cases c : wlL lm ln y x with
    | false =>
      rw [if_pos (show bI false = 0 by decide)]
      refine ⟨t, e1, fun z => rest (q.mp z), fun ⟨u, u1, u2, u3, u4⟩ => q.mpr ⟨u, ?_, u2, u3, u4⟩⟩
      by_cases z : u = x
      · rw [z, c] at u3; cases u3
      · omega
    | true =>
      rw [if_neg (show ¬ bI true = 0 by decide)]
      by_cases v : wo (x + 8 * y) = none
      · rw [if_pos v]
        refine ⟨t, e1, fun z => rest (q.mp z), fun ⟨u, u1, u2, u3, u4⟩ => q.mpr ⟨u, ?_, u2, u3, u4⟩⟩
        by_cases z : u = x
        · rw [z] at u4; exact absurd v u4
        · omega
      · rw [if_neg v]
        exact ⟨true, rfl, fun _ => ⟨x, Nat.le_refl _, by omega, c, v⟩, fun _ => rfl⟩
theorem m_isUnder {B : Bas} {P : Nat → Nat} {lm ln kk kat ks ky : Nat → Int32} {y : Nat} (h : basOk B) (hi : insA B P) (hr : rfB B kk ks ky) (hp : chP B P kat) (hy : y < 8) (kwho khe : Nat → Int32) :
    ∃ (t : Bool) (kw' kh' : Nat → Int32), f_BargeBasinModel_isUnder (nI y) (nI (bw B)) (nI (bn B)) lm ln kk kat ks ky kwho khe = some (bI t, kw', kh') ∧ (t = true ↔ ∃ u, u < bw B ∧ wlL lm ln y u = true ∧ tkA B P (u + 8 * y) = true) := by
  have w8 := h.2.1
  have n12 := h.2.2.2.2.1
  obtain ⟨kw1, kh1, e1, o1, p1⟩ := m_layAllB h hi hr hp kwho khe
  obtain ⟨t, e2, q⟩ := m_underL (lm := lm) (ln := ln) o1 (fun f c e => by have := whoN_mem e; omega) w8 hy (bw B) 0 jN (by omega) (by show bw B < 2000000; omega)
  refine ⟨t, kw1, kh1, ?_, ?_⟩
  · unfold f_BargeBasinModel_isUnder
    rw [ev_b _ e1, un2_ap, ev_b _ (show f_BargeBasinModel_isUnder_L6 (nI y) (nI (bw B)) lm ln kw1 jN 0 = _ from e2)]
    cases t <;> rfl
  · rw [q]
    constructor
    · rintro ⟨u, -, u2, u3, u4⟩; exact ⟨u, u2, u3, who_tk.mp u4⟩
    · rintro ⟨u, u2, u3, u4⟩; exact ⟨u, Nat.zero_le _, u2, u3, who_tk.mpr u4⟩
/-! The class: a row's bits. -/
theorem tb_or32 (a b : Int32) (f : Nat) : tb (a ||| b).toInt64 f = (tb a.toInt64 f || tb b.toInt64 f) := by
  rw [← tb_or]
  congr 1
  exact Int32.toInt64_or a b
theorem tb_bit : ∀ x, x < 8 → ∀ f, f < 64 → tb (jishl 1 (nI x)).toInt64 f = decide (f = x) := by decide +kernel
theorem tb_255 : ∀ f, f < 64 → tb 255 f = decide (f < 8) := by decide +kernel
theorem tb_00 (f : Nat) : tb (0 : Int32).toInt64 f = false := tb_0 f
theorem s_bitsL {cs cn : Nat → Int32} {y w m : Nat} {g : Nat → Bool} (hw : w ≤ 8) (hy : y < 8) (hm : m ≤ 8) (hs : cs y = nI m) (hg : ∀ x, x < 8 → g x = if m ≤ x then true else decide (¬ cn (8 * y + x) = 0)) : ∀ (d x n : Nat) (v : Int32), x + d = w → d < n → (∀ f, f < 64 → tb v.toInt64 f = (decide (f < x) && g f)) → ∃ r : Int32, f_Lines_wallBits_L15 (nI y) (nI w) cs cn n v (nI x) = some r ∧ ∀ f, f < 64 → tb r.toInt64 f = (decide (f < w) && g f) := by
  intro d
  induction d with
  | zero =>
    intro x n v h hn hv
    obtain ⟨k, rfl⟩ : ∃ m, n = m + 1 := ⟨n - 1, by omega⟩
    have e : x = w := by omega
    subst e
    refine ⟨v, ?_, hv⟩
    rw [f_Lines_wallBits_L15, if_pos (nI_le (Nat.le_refl _) (by omega))]
  | succ d ih =>
    intro x n v h hn hv
    obtain ⟨k, rfl⟩ : ∃ m, n = m + 1 := ⟨n - 1, by omega⟩
    have x8 : x < 8 := by omega
    have e : (8 : Int32) * nI y + nI x = nI (8 * y + x) := by rw [i8, nI_add]
    have nm : f_Lines_number (nI y) (nI x) cn = some (cn (8 * y + x)) := by
      unfold f_Lines_number
      rw [e, ev_grdN _ (show 8 * y + x < 64 by omega) (by decide), nI_clamp (by omega)]
    have el : (nI m ≤ nI x) = (m ≤ x) := nI_leE (by omega) (by omega)
    rw [f_Lines_wallBits_L15, if_neg (nI_ge (show x < w by omega) (by omega)), ev_grdN _ hy (by decide), nI_clamp (show y < 2 ^ 31 by omega), hs]
    simp only [el, ev_bnd, nI_1]
    have gx := hg x x8
    have up : g x = true → ∀ f, f < 64 → tb (v ||| jishl 1 (nI x)).toInt64 f = (decide (f < x + 1) && g f) := by
      intro gt f hf
      rw [tb_or32, hv f hf, tb_bit x x8 f hf]
      by_cases z : f = x
      · rw [z, gt, decide_eq_true (rfl : x = x), decide_eq_true (show x < x + 1 by omega)]; simp
      · rw [decide_eq_false z, Bool.or_false, show decide (f < x + 1) = decide (f < x) from decide_eq_decide.mpr (by omega)]
    by_cases c : m ≤ x
    · rw [if_pos c] at gx ⊢
      exact ih (x + 1) k _ (by omega) (by omega) (up gx)
    · rw [if_neg c] at gx ⊢
      rw [ev_b _ nm]
      by_cases q : cn (8 * y + x) = 0
      · rw [if_pos q]
        refine ih (x + 1) k _ (by omega) (by omega) (fun f hf => ?_)
        rw [hv f hf]
        by_cases z : f = x
        · rw [z, gx, decide_eq_false (show ¬ ¬ cn (8 * y + x) = 0 from fun u => u q), Bool.and_false, Bool.and_false]
        · rw [show decide (f < x + 1) = decide (f < x) from decide_eq_decide.mpr (by omega)]
      · rw [if_neg q]
        exact ih (x + 1) k _ (by omega) (by omega) (up (by rw [gx, decide_eq_true q]))
theorem s_wallBits {csort csize cnum lsort lmany lnum : Nat → Int32} {y w : Nat} (hw : w ≤ 8) (hy : y < 8) (hl : lnY csort csize cnum lsort lmany lnum y) : ∃ r : Int32, f_Lines_wallBits (nI y) (nI w) csort csize cnum = some r ∧ ∀ f, f < 64 → tb r.toInt64 f = (decide (f < w) && wlL lmany lnum y f) := by
  unfold f_Lines_wallBits
  rw [ev_b _ (s_missing hy hl)]
  rcases hl with ⟨a, b⟩ | ⟨t, m, t3, m8, a, a2, a3, a4, a5⟩
  · rw [decide_eq_true b, if_neg (show ¬ bI true = 0 by decide)]
    refine ⟨0, rfl, fun f hf => ?_⟩
    rw [tb_00]
    unfold wlL
    rw [if_pos b, Bool.and_false]
  · have nn : ¬ lmany y < 0 := by rw [a4]; exact nI_nn (by omega)
    rw [decide_eq_false nn, if_pos (show bI false = 0 by decide)]
    obtain ⟨r, e, q⟩ := s_bitsL (cn := cnum) (g := wlL lmany lnum y) hw hy m8 a3 (fun x hx => by
      unfold wlL
      have el : (nI m ≤ nI x) = (m ≤ x) := nI_leE (by omega) (by omega)
      rw [if_neg nn, a4]
      simp only [el]
      by_cases c : m ≤ x
      · rw [if_pos c, if_pos c]
      · rw [if_neg c, if_neg c, a5 x (by omega)]) w 0 jN 0 (by omega) (by show w < 2000000; omega) (fun f hf => by rw [tb_00, decide_eq_false (by omega), Bool.false_and])
    exact ⟨r, by rw [ev_b _ (show f_Lines_wallBits_L15 (nI y) (nI w) csize cnum jN 0 0 = _ from e)], q⟩
/-- the basin with row y's walls told anew -/
def rowB (B : Bas) (y : Nat) (g : Nat → Bool) : Bas := (bw B, bh B, bn B, bK B, bS B, bY B, bG B, fun f => if f / 8 = y then decide (f % 8 < bw B) && g (f % 8) else bwl B f)
theorem s_wallRow {B : Bas} {y : Nat} {g : Nat → Bool} {r : Int32} {kwl : Int64} (h : basOk B) (hy : y < 8) (hw : chW B kwl) (hr : ∀ f, f < 64 → tb r.toInt64 f = (decide (f < bw B) && g f)) : ∃ kwl', f_Chart_wallRow (nI y) r kwl = some kwl' ∧ chW (rowB B y g) kwl' := by
  have w8 := h.2.1
  refine ⟨_, rfl, fun f hf => ?_⟩
  show _ = (if f / 8 = y then decide (f % 8 < bw B) && g (f % 8) else bwl B f)
  rw [i8, tb_or, tb_and, tb_not hf, tb_shl (by omega), tb_shl (by omega), tb_255 _ (by omega), hr _ (show f - 8 * y < 64 by omega), hw f hf, decide_eq_true hf, Bool.true_and]
  by_cases c : f / 8 = y
  · have e : f - 8 * y = f % 8 := by omega
    rw [if_pos c, e, decide_eq_false (show ¬ f < 8 * y by omega), decide_eq_true (show f % 8 < 8 by omega)]
    simp
  · rw [if_neg c]
    by_cases q : f < 8 * y
    · rw [decide_eq_true q]; simp
    · rw [decide_eq_false q, decide_eq_false (show ¬ f - 8 * y < 8 by omega), decide_eq_false (show ¬ f - 8 * y < bw B by omega)]; simp
theorem rowB_bas {B : Bas} {y : Nat} {g : Nat → Bool} (h : basOk B) : basOk (rowB B y g) := h
theorem rowB_st {B : Bas} {P : Nat → Nat} {y : Nat} {g : Nat → Bool} (h : stC B P) (hg : ∀ x, x < bw B → g x = true → tkA B P (x + 8 * y) = false) : stC (rowB B y g) P := by
  obtain ⟨⟨i, a, n⟩, c⟩ := h
  refine ⟨⟨i, a, fun b f hb hf q => ?_⟩, c⟩
  have q' : fbA B P b f = true := q
  have hb' : b < bn B := hb
  show (if f / 8 = y then decide (f % 8 < bw B) && g (f % 8) else bwl B f) = false
  by_cases z : f / 8 = y
  · rw [if_pos z]
    by_cases w : f % 8 < bw B
    · rw [decide_eq_true w, Bool.true_and, ← Bool.not_eq_true]
      intro gt
      have := hg _ w gt
      rw [show f % 8 + 8 * y = f by omega] at this
      have t : tkA B P f = true := List.any_eq_true.mpr ⟨b, List.mem_range.mpr hb', q'⟩
      rw [t] at this; cases this
    · rw [decide_eq_false w, Bool.false_and]
  · rw [if_neg z]; exact n b f hb' hf q'
theorem rowB_rf {B : Bas} {P : Nat → Nat} {y : Nat} {lm ln : Nat → Int32} {khas kw kh kn : Int32} {kwl kk kat ks ky kg : Nat → Int32} (hr : rfX B P khas kw kh kn kwl kk kat ks ky kg) (hin : ∀ f, f < 64 → (bw B ≤ f % 8 ∨ bh B ≤ f / 8) → bwl B f = false) :
    rfX (rowB B y (wlL lm ln y)) P khas kw kh kn (fun f => if f / 8 = y ∧ 0 ≤ f % 8 ∧ f % 8 < bw B then bI (wlL lm ln y (f % 8)) else kwl f) kk kat ks ky kg := by
  obtain ⟨r1, r2, r3, r4, r5, r6, r7, r8⟩ := hr
  refine ⟨r1, r2, r3, r4, fun f hf => ?_, r6, r7, r8⟩
  show (if f / 8 = y ∧ 0 ≤ f % 8 ∧ f % 8 < bw B then bI (wlL lm ln y (f % 8)) else kwl f) = bI (if f / 8 = y then decide (f % 8 < bw B) && wlL lm ln y (f % 8) else bwl B f)
  by_cases z : f / 8 = y
  · rw [if_pos z]
    by_cases w : f % 8 < bw B
    · rw [if_pos ⟨z, Nat.zero_le _, w⟩, decide_eq_true w, Bool.true_and]
    · rw [if_neg (fun q => w q.2.2), decide_eq_false w, Bool.false_and, r5 f hf, hin f hf (Or.inl (by omega))]
  · rw [if_neg z, if_neg (fun q => z q.1), r5 f hf]
/-- lines and walls of the other rows stay, row y's are told anew -/
theorem rowB_ln {B : Bas} {y : Nat} {cs cz cn ls lm ln cs' cz' cn' ls' lm' ln' : Nat → Int32} (hl : lnR B cs cz cn ls lm ln) (hy : y < bh B) (h8 : bh B ≤ 8) (hw : bw B ≤ 8) (e1 : ∀ z, z ≠ y → cs' z = cs z ∧ cz' z = cz z ∧ ls' z = ls z ∧ lm' z = lm z) (e2 : ∀ f, f / 8 ≠ y → cn' f = cn f ∧ ln' f = ln f) (ey : lnY cs' cz' cn' ls' lm' ln' y) : lnR (rowB B y (wlL lm' ln' y)) cs' cz' cn' ls' lm' ln' := by
  obtain ⟨l1, l2, l3, l4⟩ := hl
  refine ⟨fun z hz => ?_, fun z x hz hx => ?_, fun f hf q => ?_, fun z h1 h2 => by have h1' : bh B ≤ z := h1; rw [(e1 z (by omega)).2.2.2]; exact l4 z h1' h2⟩
  · by_cases e : z = y
    · rw [e]; exact ey
    · obtain ⟨a1, a2, a3, a4⟩ := e1 z e
      rcases l1 z hz with ⟨b1, b2⟩ | ⟨t, m, t3, m8, b1, b2, b3, b4, b5⟩
      · exact Or.inl ⟨by rw [a1]; exact b1, by rw [a4]; exact b2⟩
      · refine Or.inr ⟨t, m, t3, m8, by rw [a1]; exact b1, by rw [a3]; exact b2, by rw [a2]; exact b3, by rw [a4]; exact b4, fun i hi => ?_⟩
        obtain ⟨c1, c2⟩ := e2 (8 * z + i) (by omega)
        rw [c1, c2]; exact b5 i hi
  · have hz' : z < bh B := hz
    have hx' : x < bw B := hx
    show (if (x + 8 * z) / 8 = y then decide ((x + 8 * z) % 8 < bw B) && wlL lm' ln' y ((x + 8 * z) % 8) else bwl B (x + 8 * z)) = _
    rw [show (x + 8 * z) / 8 = z by omega, show (x + 8 * z) % 8 = x by omega]
    by_cases e : z = y
    · rw [if_pos e, decide_eq_true hx', Bool.true_and, e]
    · rw [if_neg e, l2 z x hz' hx']
      unfold wlL
      rw [(e1 z e).2.2.2, (e2 (8 * z + x) (by omega)).2]
  · have q' : bw B ≤ f % 8 ∨ bh B ≤ f / 8 := q
    show (if f / 8 = y then decide (f % 8 < bw B) && wlL lm' ln' y (f % 8) else bwl B f) = false
    by_cases e : f / 8 = y
    · rw [if_pos e, decide_eq_false (show ¬ f % 8 < bw B by omega), Bool.false_and]
    · rw [if_neg e]; exact l3 f hf q'
theorem s_linesChanged {B : Bas} {P : Nat → Nat} {cn : Int32} {cwl ct : Int64} {ck cp cl cg ca cwd chg : Nat → Int32} {cs : Nat → Int64} {csort csize cnum lsort lmany lnum : Nat → Int32} {y : Nat} {st ld lu : Int32} (h : basOk B) (hy : y < 8) (hc : chX B P (nI (bw B)) (nI (bh B)) cn cwl ct ck cp cl cg ca cwd chg cs) (hl : lnY csort csize cnum lsort lmany lnum y) :
    ∃ cwl', f_BargeBasin_linesChanged (nI y) st csort csize cnum (nI (bw B)) cwl ld lu = some (1, 0, cwl', 0, 0) ∧ chX (rowB B y (wlL lmany lnum y)) P (nI (bw B)) (nI (bh B)) cn cwl' ct ck cp cl cg ca cwd chg cs := by
  obtain ⟨c1, c2, c3, c4, c5, c6, c7, c8, c9⟩ := hc
  obtain ⟨r, e1, q1⟩ := s_wallBits h.2.1 hy hl
  obtain ⟨cwl', e2, q2⟩ := s_wallRow h hy c4 q1
  refine ⟨cwl', ?_, c1, c2, c3, q2, c5, c6, c7, c8, c9⟩
  unfold f_BargeBasin_linesChanged
  rw [ev_b _ e1, ev_b _ e2]; rfl
/-! tear -/
theorem eq_tear {B : Bas} {P : Nat → Nat} {cw chh cn : Int32} {cwl ct : Int64} {ck cp cl cg ca cwd chg : Nat → Int32} {cs : Nat → Int64} {khas kw kh kn : Int32} {kwl kk kat ks ky kg : Nat → Int32} {lf ld lu um rm : Int32} {lm ub uf ut rb rf rt : Nat → Int32} {csort csize cnum lsort lmany lnum : Nat → Int32} (h : basOk B) (hP : stC B P) (hc : chX B P cw chh cn cwl ct ck cp cl cg ca cwd chg cs) (hr : rfX B P khas kw kh kn kwl kk kat ks ky kg) (hl : lgR B P lf ld lu lm um rm ub uf ut rb rf rt) (hn : lnR B csort csize cnum lsort lmany lnum) (v1 st st2 th : Int32) :
    ∃ (ans st' : Int32) (csort' : Nat → Int32) (cwl' : Int64) (ld' lu' um' rm' : Int32) (lmany' kwl' : Nat → Int32) (B' : Bas), f_BargeBasin_tear v1 st csort csize cnum cw chh cwl ld lu = some (ans, st', csort', cwl', ld', lu') ∧
      f_BargeBasinModel_tear v1 st2 th khas kw kh um rm lmany lnum kwl = some (ans, st', 0, um', rm', lmany', kwl') ∧
      (B' = B ∨ ∃ y g, B' = rowB B y g) ∧ basOk B' ∧ stC B' P ∧ chX B' P cw chh cn cwl' ct ck cp cl cg ca cwd chg cs ∧ rfX B' P khas kw kh kn kwl' kk kat ks ky kg ∧ lgR B' P lf ld' lu' lm um' rm' ub uf ut rb rf rt ∧ lnR B' csort' csize cnum lsort lmany' lnum := by
  have h8 := h.2.2.2.1
  have hc0 := hc
  have hr0 := hr
  obtain ⟨c1, c2, c3, c4, c5, c6, c7, c8, c9⟩ := hc
  obtain ⟨r1, r2, r3, r4, r5, r6, r7, r8⟩ := hr
  subst c1; subst c2; subst r1; subst r2; subst r3
  unfold f_BargeBasin_tear f_BargeBasin_faultOfLine f_BargeBasinModel_tear
  rw [ev_b _ (noBas h), if_pos rfl, if_neg (show ¬ (1 : Int32) = 0 by decide)]
  rcases lin (v1 := v1) h with ⟨y, hy, e, l1, l2⟩ | ⟨l1, l2⟩
  · subst e
    have y8 : y < 8 := by omega
    rw [ev_b _ l1, ev_b _ l2, if_pos rfl, if_neg (show ¬ (1 : Int32) = 0 by decide), ev_b _ (s_missing y8 (hn.1 y y8)), ev_grdN _ y8 (by decide), ev_grdN _ y8 (by decide), nI_clamp (show y < 2 ^ 31 by omega)]
    by_cases mi : lmany y < 0
    · rw [decide_eq_true mi, if_neg (show ¬ bI true = 0 by decide), if_neg (show ¬ 0 ≤ lmany y from fun z => absurd mi (Int32.not_lt.mpr z))]
      exact ⟨0, 3, csort, cwl, ld, lu, um, rm, lmany, kwl, B, rfl, rfl, Or.inl rfl, h, hP, hc0, hr0, hl, hn⟩
    · have ey : lnY (upd csort y (-1)) csize cnum lsort (upd lmany y (-1)) lnum y := Or.inl ⟨pk_us, by rw [pk_us]; decide⟩
      obtain ⟨cwl', e1, x1⟩ := s_linesChanged (st := st) (ld := ld) (lu := lu) h y8 hc0 ey
      have t : f_Lines_tearOff (nI y) csort = some (upd csort y (-1)) := by
        unfold f_Lines_tearOff
        rw [ev_grdN _ y8 (by decide), nI_clamp (show y < 2 ^ 31 by omega)]
      have st1 : stC (rowB B y (wlL (upd lmany y (-1)) lnum y)) P := rowB_st hP (fun x hx g => by
        unfold wlL at g
        rw [pk_us, if_pos (by decide)] at g; cases g)
      rw [decide_eq_false mi, if_pos (show bI false = 0 by decide), if_pos (show 0 ≤ lmany y from Int32.not_lt.mp mi), ev_b _ (rfl : some (0 : Int32) = some 0), if_pos rfl, ev_b _ t, ev_b _ e1, ev_b _ (m_walls h.2.1 y8 kwl)]
      exact ⟨1, 0, upd csort y (-1), cwl', 0, 0, 0, 0, upd lmany y (-1), _, rowB B y (wlL (upd lmany y (-1)) lnum y), rfl, rfl, Or.inr ⟨_, _, rfl⟩, rowB_bas h, st1, x1, rowB_rf hr0 hn.2.2.1, lgR_forget hl st1, rowB_ln hn hy h8 h.2.1 (fun z hz => ⟨pk_un hz, rfl, rfl, pk_un hz⟩) (fun f hf => ⟨rfl, rfl⟩) ey⟩
  · rw [ev_b _ l1, ev_b _ l2, if_pos rfl, if_neg (show ¬ (1 : Int32) = 0 by decide)]
    exact ⟨0, 2, csort, cwl, ld, lu, um, rm, lmany, kwl, B, rfl, rfl, Or.inl rfl, h, hP, hc0, hr0, hl, hn⟩
