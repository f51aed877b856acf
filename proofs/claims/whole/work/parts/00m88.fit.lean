/-! Where a new barge would lie: fits and add of the class, againstAny of the reference. -/
def fitA (B : Bas) (P : Nat → Nat) (W H x y : Nat) : Bool := decide (x + W ≤ bw B ∧ y + H ≤ bh B) && !anyF (fun f => inB x y W H f && (bwl B f || tkA B P f))
theorem bWH {k s y : Nat} (h : bgOk k s y) : (if decide (y = 1) = true then 1 else s) = bW k s y ∧ (if decide (y = 1) = true then s else if k = 3 then s else 1) = bH k s y := by
  obtain ⟨h1, h2, h3⟩ := h
  have hy : y = 0 ∨ y = 1 := by omega
  unfold lenOk at h1
  have hk : k = 1 ∨ k = 2 ∨ k = 3 ∨ k = 4 ∨ k = 5 := by omega
  rcases hk with e | e | e | e | e <;> subst e <;> rcases hy with e | e <;> subst e <;> simp [bW, bH] at * <;> omega
theorem s_fits {B : Bas} {P : Nat → Nat} {k s yy x y : Nat} {cwl ct : Int64} (h : basOk B) (hw : chW B cwl) (ht : chT B P ct) (hg : bgOk k s yy) (hx : x < bw B) (hy : y < bh B) : f_Chart_fits (nI k) (nI x) (nI y) (nI s) (bI (decide (yy = 1))) (nI (bw B)) (nI (bh B)) cwl ct = some (bI (fitA B P (bW k s yy) (bH k s yy) x y)) := by
  obtain ⟨g1, g2, g3, g4, g5, g6, g7⟩ := bgOk_wh hg
  obtain ⟨e1, e2⟩ := bWH hg
  have w8 := h.2.1
  have h8 := h.2.2.2.1
  have a1 := s_wideOf (n := s) (decide (yy = 1))
  have a2 := s_highOf (n := s) g1 (decide (yy = 1))
  rw [e1] at a1
  rw [e2] at a2
  have ins := s_isInside (x := nI x) (y := nI y) (W := bW k s yy) (H := bH k s yy) w8 h8 (by omega) (by omega)
  rw [nI_toInt (show x < 2 ^ 31 by omega), nI_toInt (show y < 2 ^ 31 by omega)] at ins
  have de : decide (0 ≤ (x : Int) ∧ (x : Int) + bW k s yy ≤ bw B ∧ 0 ≤ (y : Int) ∧ (y : Int) + bH k s yy ≤ bh B) = decide (x + bW k s yy ≤ bw B ∧ y + bH k s yy ≤ bh B) := decide_eq_decide.mpr (by omega)
  rw [de] at ins
  have e8 : (8 : Int32) * nI y + nI x = nI (x + 8 * y) := by rw [i8, nI_add, Nat.add_comm]
  unfold f_Chart_fits fitA
  rw [ev_b _ a1, ev_b _ a2, ev_b _ ins]
  by_cases c : x + bW k s yy ≤ bw B ∧ y + bH k s yy ≤ bh B
  · rw [decide_eq_true c, if_neg (show ¬ bI true = 0 by decide), ev_b _ (s_shapeOf (by omega)), e8]
    simp only [cmp0, and0]
    have ea : anyF (fun f => tb (jlshl (shp (bW k s yy) (bH k s yy)) (nI (x + 8 * y))) f && tb (cwl ||| ct) f) = anyF (fun f => inB x y (bW k s yy) (bH k s yy) f && (bwl B f || tkA B P f)) := anyF_cg fun f hf => by
      rw [shp_at (show x + 8 * y < 64 by omega) g4 g6 (by omega) hf, tb_or, hw f hf, ht f hf, show (x + 8 * y) % 8 = x by omega, show (x + 8 * y) / 8 = y by omega]
    rw [ea]
    cases anyF (fun f => inB x y (bW k s yy) (bH k s yy) f && (bwl B f || tkA B P f)) <;> rfl
  · rw [decide_eq_false c]; rfl
theorem m_aaL48 {b X Y j W : Nat} {kwl kk ks ky kwho : Nat → Int32} {wl : Nat → Bool} {wo : Nat → Option Nat}
    (hw : f_BargeBasinModel_wide (nI b) kk ks ky = some (nI W)) (hwl : ∀ f, f < 64 → kwl f = bI (wl f)) (hwo : ∀ f, f < 64 → kwho f = oI (wo f)) (ho : ∀ f c, wo f = some c → c < 12) (hX : X + W ≤ 8) (hj : j < 8) :
    ∀ (r i n : Nat), i + r = X + W → r < n → ∃ t : Bool, f_BargeBasinModel_againstAny_L48 (nI b) (nI X) (nI Y) (nI j) kwl kk ks ky kwho n (nI i) = some (if t then .inl () else .inr ()) ∧ (t = true ↔ ∃ x, i ≤ x ∧ x < X + W ∧ (wl (x + 8 * j) = true ∨ wo (x + 8 * j) ≠ none)) := by
  intro r
  induction r with
  | zero =>
    intro i n h1 h2
    obtain ⟨n, rfl⟩ : ∃ z, n = z + 1 := ⟨n - 1, by omega⟩
    exact ⟨false, by rw [f_BargeBasinModel_againstAny_L48, ev_b _ hw, nI_add, if_pos (nI_le (by omega) (by omega))]; rfl, fun z => by (cases z), fun ⟨x, q1, q2, _⟩ => by omega⟩
  | succ r ih =>
    intro i n h1 h2
    obtain ⟨n, rfl⟩ : ∃ z, n = z + 1 := ⟨n - 1, by omega⟩
    have o31 : ∀ c, wo (i + 8 * j) = some c → c < 2 ^ 31 := fun c hc => by have := ho _ c hc; omega
    rw [f_BargeBasinModel_againstAny_L48, ev_b _ hw, nI_add, if_neg (nI_ge (by omega) (by omega)), i8, nI_add, ev_grdN _ (show i + 8 * j < 64 by omega) (by decide), ev_grdN _ (show i + 8 * j < 64 by omega) (by decide), nI_clamp (show i + 8 * j < 2 ^ 31 by omega), hwl _ (show i + 8 * j < 64 by omega), hwo _ (show i + 8 * j < 64 by omega)]
    simp only [oI_neg o31, ev_bnd, nI_1]
    cases ew : wl (i + 8 * j) with
    | true =>
      rw [if_neg (show ¬ bI true = 0 by decide)]
      exact ⟨true, rfl, fun _ => ⟨i, Nat.le_refl _, by omega, Or.inl ew⟩, fun _ => rfl⟩
    | false =>
      rw [if_pos (show bI false = 0 by decide)]
      by_cases eo : wo (i + 8 * j) = none
      · obtain ⟨t, e, q⟩ := ih (i + 1) n (by omega) (by omega)
        refine ⟨t, by rw [if_pos eo]; exact e, ?_⟩
        rw [q]
        constructor
        · rintro ⟨x, x1, x2, x3⟩; exact ⟨x, by omega, x2, x3⟩
        · rintro ⟨x, x1, x2, x3⟩
          by_cases z : x = i
          · subst z
            rcases x3 with y | y
            · rw [ew] at y; cases y
            · exact absurd eo y
          · exact ⟨x, by omega, x2, x3⟩
      · rw [if_neg eo]
        exact ⟨true, rfl, fun _ => ⟨i, Nat.le_refl _, by omega, Or.inr eo⟩, fun _ => rfl⟩
theorem m_aaL33 {b X Y W H : Nat} {kwl kk ks ky kwho : Nat → Int32} {wl : Nat → Bool} {wo : Nat → Option Nat}
    (hw : f_BargeBasinModel_wide (nI b) kk ks ky = some (nI W)) (ht : f_BargeBasinModel_tall (nI b) kk ks ky = some (nI H)) (hwl : ∀ f, f < 64 → kwl f = bI (wl f)) (hwo : ∀ f, f < 64 → kwho f = oI (wo f)) (ho : ∀ f c, wo f = some c → c < 12) (hX : X + W ≤ 8) (hY : Y + H ≤ 8) :
    ∀ (r j n : Nat), j + r = Y + H → r < n → ∃ t : Bool, f_BargeBasinModel_againstAny_L33 (nI b) (nI X) (nI Y) kwl kk ks ky kwho n (nI j) = some (if t then .inl () else .inr ()) ∧ (t = true ↔ ∃ z x, j ≤ z ∧ z < Y + H ∧ X ≤ x ∧ x < X + W ∧ (wl (x + 8 * z) = true ∨ wo (x + 8 * z) ≠ none)) := by
  intro r
  induction r with
  | zero =>
    intro j n h1 h2
    obtain ⟨n, rfl⟩ : ∃ z, n = z + 1 := ⟨n - 1, by omega⟩
    exact ⟨false, by rw [f_BargeBasinModel_againstAny_L33, ev_b _ ht, nI_add, if_pos (nI_le (by omega) (by omega))]; rfl, fun z => by (cases z), fun ⟨z, x, q1, q2, _⟩ => by omega⟩
  | succ r ih =>
    intro j n h1 h2
    obtain ⟨n, rfl⟩ : ∃ z, n = z + 1 := ⟨n - 1, by omega⟩
    obtain ⟨t, e, q⟩ := m_aaL48 (Y := Y) hw hwl hwo ho hX (show j < 8 by omega) W X jN (by omega) (by show W < 2000000; omega)
    rw [f_BargeBasinModel_againstAny_L33, ev_b _ ht, nI_add, if_neg (nI_ge (by omega) (by omega)), ev_b _ e]
    cases t with
    | true =>
      obtain ⟨x, x1, x2, x3⟩ := q.mp rfl
      exact ⟨true, rfl, fun _ => ⟨j, x, Nat.le_refl _, by omega, x1, x2, x3⟩, fun _ => rfl⟩
    | false =>
      obtain ⟨t2, e2, q2⟩ := ih (j + 1) n (by omega) (by omega)
      rw [if_neg (by decide), jsel_r, un0_ap, ev_bnd, nI_1]
      refine ⟨t2, e2, ?_⟩
      rw [q2]
      constructor
      · rintro ⟨z, x, z1, z2⟩; exact ⟨z, x, by omega, z2⟩
      · rintro ⟨z, x, z1, z2, x1, x2, x3⟩
        by_cases y : z = j
        · subst y
          have := q.mpr ⟨x, x1, x2, x3⟩
          cases this
        · exact ⟨z, x, by omega, z2, x1, x2, x3⟩
theorem who_tk {B : Bas} {P : Nat → Nat} {f : Nat} : whoN (fbA B P) (bn B) f ≠ none ↔ tkA B P f = true := by
  rw [tkA_t]
  constructor
  · intro h
    cases e : whoN (fbA B P) (bn B) f with
    | none => exact absurd e h
    | some c => exact ⟨c, whoN_mem e⟩
  · rintro ⟨c, c1, c2⟩ e
    rw [whoN_none.mp e c c1] at c2; cases c2
theorem m_againstAny {B : Bas} {P : Nat → Nat} {b W H x y : Nat} {kwl kk ks ky kwho : Nat → Int32} (h : basOk B) (hwl : rfW B kwl) (ho : rfO B P kwho) (hw : f_BargeBasinModel_wide (nI b) kk ks ky = some (nI W)) (ht : f_BargeBasinModel_tall (nI b) kk ks ky = some (nI H)) (hW : W < 5) (hH : H < 5) (hx : x < bw B) (hy : y < bh B) :
    ∃ r, f_BargeBasinModel_againstAny (nI b) (nI x) (nI y) (nI (bw B)) (nI (bh B)) kwl kk ks ky kwho = some (nI r) ∧ r < 4 ∧ (r = 0 ↔ fitA B P W H x y = true) := by
  have w8 := h.2.1
  have h8 := h.2.2.2.1
  have n12 := h.2.2.2.2.1
  unfold f_BargeBasinModel_againstAny fitA
  rw [ev_b _ hw, nI_add, ev_b _ ht, nI_add]
  simp only [nI_ltE (show bw B < 2 ^ 31 by omega) (show x + W < 2 ^ 31 by omega), nI_leE (show y + H < 2 ^ 31 by omega) (show bh B < 2 ^ 31 by omega)]
  by_cases c1 : bw B < x + W
  · rw [if_pos c1]
    exact ⟨2, rfl, by decide, fun z => by (cases z), fun z => by rw [Bool.and_eq_true, decide_eq_true_eq] at z; omega⟩
  · rw [if_neg c1]
    by_cases c2 : y + H ≤ bh B
    · rw [if_pos c2]
      obtain ⟨t, e, q⟩ := m_aaL33 (X := x) (Y := y) hw ht hwl ho (fun f c e => by have := whoN_mem e; omega) (by omega) (by omega) H y jN (by omega) (by show H < 2000000; omega)
      rw [ev_b _ e]
      have ea : anyF (fun f => inB x y W H f && (bwl B f || tkA B P f)) = t := by
        rw [Bool.eq_iff_iff, ← box_any (p := fun f => bwl B f || tkA B P f) (by omega) (by omega), q]
        constructor
        · rintro ⟨z, u, q1, q2, q3, q4, q5⟩
          refine ⟨z, u, q1, q2, q3, q4, ?_⟩
          have q5' : (bwl B (u + 8 * z) || tkA B P (u + 8 * z)) = true := q5
          rw [Bool.or_eq_true] at q5'
          rcases q5' with v | v
          · exact Or.inl v
          · exact Or.inr (who_tk.mpr v)
        · rintro ⟨z, u, q1, q2, q3, q4, q5⟩
          refine ⟨z, u, q1, q2, q3, q4, ?_⟩
          show (bwl B (u + 8 * z) || tkA B P (u + 8 * z)) = true
          rw [Bool.or_eq_true]
          rcases q5 with v | v
          · exact Or.inl v
          · exact Or.inr (who_tk.mp v)
      rw [ea, decide_eq_true (show x + W ≤ bw B ∧ y + H ≤ bh B by omega)]
      cases t with
      | true => exact ⟨3, rfl, by decide, fun z => by (cases z), fun z => by cases z⟩
      | false => exact ⟨0, rfl, by decide, fun _ => rfl, fun _ => rfl⟩
    · rw [if_neg c2]
      exact ⟨2, rfl, by decide, fun z => by (cases z), fun z => by rw [Bool.and_eq_true, decide_eq_true_eq] at z; omega⟩
/-! One barge more. -/
def addB (B : Bas) (k s y p : Nat) : Bas := (bw B, bh B, bn B + 1, updN (bK B) (bn B) k, updN (bS B) (bn B) s, updN (bY B) (bn B) y, updN (bG B) (bn B) p, bwl B)
theorem add_x {B : Bas} {k s y p i : Nat} : xW (addB B k s y p) i = (if i = bn B then bW k s y else xW B i) ∧ xH (addB B k s y p) i = (if i = bn B then bH k s y else xH B i) := by
  show bW (updN (bK B) (bn B) k i) (updN (bS B) (bn B) s i) (updN (bY B) (bn B) y i) = _ ∧ bH (updN (bK B) (bn B) k i) (updN (bS B) (bn B) s i) (updN (bY B) (bn B) y i) = _
  by_cases e : i = bn B
  · rw [if_pos e, if_pos e, e, updN_s, updN_s, updN_s]; exact ⟨rfl, rfl⟩
  · rw [if_neg e, if_neg e, updN_n e, updN_n e, updN_n e]; exact ⟨rfl, rfl⟩
theorem add_fb {B : Bas} {P : Nat → Nat} {k s y p i f : Nat} : fbA (addB B k s y p) (updN P (bn B) p) i f = if i = bn B then inB (p % 8) (p / 8) (bW k s y) (bH k s y) f else fbA B P i f := by
  unfold fbA
  rw [add_x.1, add_x.2]
  by_cases e : i = bn B
  · rw [if_pos e, if_pos e, if_pos e, e, updN_s]
  · rw [if_neg e, if_neg e, if_neg e, updN_n e]
theorem add_bas {B : Bas} {k s y p : Nat} (h : basOk B) (hg : bgOk k s y) (hn : bn B < 12) (hp : p < 64) : basOk (addB B k s y p) := by
  obtain ⟨h1, h2, h3, h4, h5, h6, h7⟩ := h
  refine ⟨h1, h2, h3, h4, by show bn B + 1 ≤ 12; omega, fun i hi => ?_, fun i hi e => ?_⟩
  · have hi' : i < bn B + 1 := hi
    show bgOk (updN (bK B) (bn B) k i) (updN (bS B) (bn B) s i) (updN (bY B) (bn B) y i)
    by_cases z : i = bn B
    · rw [z, updN_s, updN_s, updN_s]; exact hg
    · rw [updN_n z, updN_n z, updN_n z]; exact h6 i (by omega)
  · have hi' : i < bn B + 1 := hi
    show updN (bG B) (bn B) p i < 64
    by_cases z : i = bn B
    · rw [z, updN_s]; exact hp
    · rw [updN_n z]
      have e' : updN (bK B) (bn B) k i = 5 := e
      rw [updN_n z] at e'
      exact h7 i (by omega) e'
theorem add_st {B : Bas} {P : Nat → Nat} {k s yy x y : Nat} (h : basOk B) (hP : stC B P) (hg : bgOk k s yy) (hf : fitA B P (bW k s yy) (bH k s yy) x y = true) : stC (addB B k s yy (x + 8 * y)) (updN P (bn B) (x + 8 * y)) := by
  obtain ⟨g1, g2, g3, g4, g5, g6, g7⟩ := bgOk_wh hg
  have w8 := h.2.1
  have h8 := h.2.2.2.1
  unfold fitA at hf
  rw [Bool.and_eq_true, decide_eq_true_eq, Bool.not_eq_true', anyF_f] at hf
  obtain ⟨⟨f1, f2⟩, f3⟩ := hf
  have px : (x + 8 * y) % 8 = x := by omega
  have py : (x + 8 * y) / 8 = y := by omega
  have new : ∀ f, f < 64 → inB ((x + 8 * y) % 8) ((x + 8 * y) / 8) (bW k s yy) (bH k s yy) f = true → bwl B f = false ∧ tkA B P f = false := by
    intro f hf z
    rw [px, py] at z
    have := f3 f hf
    rw [z, Bool.true_and, Bool.or_eq_false_iff] at this
    exact this
  refine ⟨⟨fun i hi => ?_, fun i j f hi hj hf e1 e2 => ?_, fun i f hi hf e => ?_⟩, fun i hi => ?_, fun i hi e => ?_⟩
  · have hi' : i < bn B + 1 := hi
    rw [add_x.1, add_x.2]
    by_cases z : i = bn B
    · rw [if_pos z, if_pos z, z, updN_s, px, py]; exact ⟨f1, f2⟩
    · rw [if_neg z, if_neg z, updN_n z]; exact hP.1.1 i (by omega)
  · have hi' : i < bn B + 1 := hi
    have hj' : j < bn B + 1 := hj
    rw [add_fb] at e1 e2
    by_cases z : i = bn B
    · rw [if_pos z] at e1
      by_cases z2 : j = bn B
      · rw [z, z2]
      · rw [if_neg z2] at e2
        have := (new f hf e1).2
        rw [tkA_t.mpr ⟨j, by omega, e2⟩] at this; cases this
    · rw [if_neg z] at e1
      by_cases z2 : j = bn B
      · rw [if_pos z2] at e2
        have := (new f hf e2).2
        rw [tkA_t.mpr ⟨i, by omega, e1⟩] at this; cases this
      · rw [if_neg z2] at e2
        exact hP.1.2.1 i j f (by omega) (by omega) hf e1 e2
  · have hi' : i < bn B + 1 := hi
    rw [add_fb] at e
    by_cases z : i = bn B
    · rw [if_pos z] at e; exact (new f hf e).1
    · rw [if_neg z] at e; exact hP.1.2.2 i f (by omega) hf e
  · have hi' : bn B + 1 ≤ i := hi
    rw [updN_n (by omega)]
    exact hP.2.1 i (by omega)
  · have hi' : i < bn B + 1 := hi
    show (updN (bY B) (bn B) yy i = 0 → updN P (bn B) (x + 8 * y) i / 8 = updN (bG B) (bn B) (x + 8 * y) i / 8) ∧ (updN (bY B) (bn B) yy i = 1 → updN P (bn B) (x + 8 * y) i % 8 = updN (bG B) (bn B) (x + 8 * y) i % 8) ∧ updN (bG B) (bn B) (x + 8 * y) i % 8 + bW (updN (bK B) (bn B) k i) (updN (bS B) (bn B) s i) (updN (bY B) (bn B) yy i) ≤ bw B ∧ updN (bG B) (bn B) (x + 8 * y) i / 8 + bH (updN (bK B) (bn B) k i) (updN (bS B) (bn B) s i) (updN (bY B) (bn B) yy i) ≤ bh B
    by_cases z : i = bn B
    · subst z
      simp only [updN_s]
      exact ⟨fun _ => trivial, fun _ => trivial, by omega, by omega⟩
    · simp only [updN_n z]
      exact hP.2.2 i (by omega) (by have e' : updN (bK B) (bn B) k i = 5 := e; rw [updN_n z] at e'; exact e')
theorem s_add {B : Bas} {P : Nat → Nat} {k s yy p : Nat} {cw chh cn : Int32} {cwl ct : Int64} {ck cp cl cg ca cwd chg : Nat → Int32} {cs : Nat → Int64} (h : basOk B) (hc : chX B P cw chh cn cwl ct ck cp cl cg ca cwd chg cs) (hg : bgOk k s yy) (hn : bn B < 12) (hp : p < 64) (hpw : p % 8 + bW k s yy ≤ 8) :
    ∃ ct' ck' cp' cl' cg' ca' cwd' chg' cs', f_Chart_add (nI k) (nI p) (nI s) (bI (decide (yy = 1))) cn ct ck cp cl cg ca cwd chg cs = some (nI (bn B + 1), ct', ck', cp', cl', cg', ca', cwd', chg', cs') ∧ chX (addB B k s yy p) (updN P (bn B) p) cw chh (nI (bn B + 1)) cwl ct' ck' cp' cl' cg' ca' cwd' chg' cs' := by
  obtain ⟨g1, g2, g3, g4, g5, g6, g7⟩ := bgOk_wh hg
  obtain ⟨e1, e2⟩ := bWH hg
  obtain ⟨c1, c2, c3, c4, c5, c6, c7, c8, c9⟩ := hc
  subst c1; subst c2; subst c3
  have a1 := s_wideOf (n := s) (decide (yy = 1))
  have a2 := s_highOf (n := s) g1 (decide (yy = 1))
  rw [e1] at a1
  rw [e2] at a2
  have fm : f_Chart_form (nI (bn B)) (upd ck (bn B) (nI k)) (upd cl (bn B) (nI s)) (upd ca (bn B) (bI (decide (yy = 1)))) cwd chg cs = some (upd cwd (bn B) (nI (bW k s yy)), upd chg (bn B) (nI (bH k s yy)), vp_updL cs (bn B) (shp (bW k s yy) (bH k s yy))) := by
    unfold f_Chart_form
    simp only [ev_grdN _ hn (show 12 < 2 ^ 31 by decide), cl_nI hn, pk_us, a1, a2, ev_b _ rfl, s_shapeOf (show bH k s yy < 100 by omega)]
  refine ⟨ct ||| jlshl (shp (bW k s yy) (bH k s yy)) (nI p), upd ck (bn B) (nI k), upd cp (bn B) (nI p), upd cl (bn B) (nI s), upd cg (bn B) (nI p), upd ca (bn B) (bI (decide (yy = 1))), upd cwd (bn B) (nI (bW k s yy)), upd chg (bn B) (nI (bH k s yy)), vp_updL cs (bn B) (shp (bW k s yy) (bH k s yy)), ?_, rfl, rfl, rfl, c4, ?_, ?_, ?_, ?_, ?_⟩
  · unfold f_Chart_add
    rw [if_pos (show nI (bn B) < 12 from nI_lt (b := 12) hn (by decide))]
    simp only [ev_grdN _ hn (show 12 < 2 ^ 31 by decide), cl_nI hn, nar_bI]
    rw [ev_b _ fm, un3_ap, ev_b _ (s_fieldsOf (p := p) hn pk_us pk_uLs), ev_bnd, ev_bnd, nI_1]
  · intro f hf
    rw [tb_or, c5 f hf, shp_at hp g4 g6 hpw hf, Bool.eq_iff_iff, Bool.or_eq_true, tkA_t, tkA_t]
    constructor
    · rintro (⟨c, q1, q2⟩ | q)
      · exact ⟨c, by show c < bn B + 1; omega, by rw [add_fb, if_neg (by omega)]; exact q2⟩
      · exact ⟨bn B, by show bn B < bn B + 1; omega, by rw [add_fb, if_pos rfl]; exact q⟩
    · rintro ⟨c, q1, q2⟩
      have q1' : c < bn B + 1 := q1
      rw [add_fb] at q2
      by_cases z : c = bn B
      · rw [if_pos z] at q2; exact Or.inr q2
      · rw [if_neg z] at q2; exact Or.inl ⟨c, by omega, q2⟩
  · intro i hi
    have hi' : i < bn B + 1 := hi
    rw [add_x.1, add_x.2]
    show _ = nI (updN (bK B) (bn B) k i) ∧ _ = bI (decide (updN (bY B) (bn B) yy i = 1)) ∧ _
    by_cases z : i = bn B
    · rw [z, pk_us, pk_us, pk_us, pk_us, pk_uLs, updN_s, updN_s, if_pos rfl, if_pos rfl]
      exact ⟨rfl, rfl, rfl, rfl, rfl⟩
    · rw [pk_un z, pk_un z, pk_un z, pk_un z, pk_uLn z, updN_n z, updN_n z, if_neg z, if_neg z]
      exact c6 i (by omega)
  · exact fun i hi => by
      have hi' : i < bn B + 1 := hi
      by_cases z : i = bn B
      · rw [z, pk_us, updN_s]
      · rw [pk_un z, updN_n z]; exact c7 i (by omega)
  · intro i hi
    have hi' : i < bn B + 1 := hi
    show _ = nI (updN (bS B) (bn B) s i)
    by_cases z : i = bn B
    · rw [z, pk_us, updN_s]
    · rw [pk_un z, updN_n z]; exact c8 i (by omega)
  · intro i hi e
    have hi' : i < bn B + 1 := hi
    show _ = nI (updN (bG B) (bn B) p i)
    by_cases z : i = bn B
    · rw [z, pk_us, updN_s]
    · rw [pk_un z, updN_n z]
      have e' : updN (bK B) (bn B) k i = 5 := e
      rw [updN_n z] at e'
      exact c9 i (by omega) e'
