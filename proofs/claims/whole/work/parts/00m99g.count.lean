/-! count of both sides. -/
theorem nmF_add (p : Nat → Bool) (a : Nat) : ∀ b, nmF p (a + b) = nmF p a + nmF (fun i => p (a + i)) b
  | 0 => rfl
  | b + 1 => by
    show nmF p (a + b) + (if p (a + b) then 1 else 0) = nmF p a + (nmF (fun i => p (a + i)) b + (if p (a + b) then 1 else 0))
    rw [nmF_add p a b]
    omega
theorem nmF_0 {p : Nat → Bool} : ∀ {n : Nat}, (∀ i, i < n → p i = false) → nmF p n = 0
  | 0, _ => rfl
  | n + 1, h => by
    unfold nmF
    rw [nmF_0 (fun i hi => h i (by omega)), h n (by omega)]
    rfl
def totF (p : Nat → Bool) (w : Nat) : Nat → Nat
  | 0 => 0
  | h + 1 => totF p w h + nmF (fun x => p (x + 8 * h)) w
theorem nm_tot (p : Nat → Bool) : ∀ h, nmF p (8 * h) = totF p 8 h
  | 0 => rfl
  | h + 1 => by
    rw [show 8 * (h + 1) = 8 * h + 8 by omega, nmF_add, nm_tot p h]
    show _ = totF p 8 h + nmF (fun x => p (x + 8 * h)) 8
    rw [nmF_cg (p := fun i => p (8 * h + i)) (q := fun x => p (x + 8 * h)) (fun i _ => by rw [Nat.add_comm])]
theorem nmF_cut {p : Nat → Bool} {w n : Nat} (hw : w ≤ n) (h : ∀ i, w ≤ i → i < n → p i = false) : nmF p n = nmF p w := by
  obtain ⟨d, rfl⟩ : ∃ d, n = w + d := ⟨n - w, by omega⟩
  rw [nmF_add, nmF_0 (p := fun i => p (w + i)) (fun i hi => h (w + i) (by omega) (by omega))]
  omega
theorem tot_w {p : Nat → Bool} {w : Nat} (hw : w ≤ 8) : ∀ {h : Nat}, (∀ x y, w ≤ x → x < 8 → y < h → p (x + 8 * y) = false) → totF p 8 h = totF p w h
  | 0, _ => rfl
  | h + 1, q => by
    unfold totF
    rw [tot_w hw (fun x y h1 h2 h3 => q x y h1 h2 (by omega)), nmF_cut (p := fun x => p (x + 8 * h)) hw (fun i h1 h2 => q i h h1 h2 (by omega))]
theorem tot_h {p : Nat → Bool} {w h : Nat} : ∀ d, (∀ x y, x < w → h ≤ y → p (x + 8 * y) = false) → totF p w (h + d) = totF p w h
  | 0, _ => rfl
  | d + 1, q => by
    show totF p w (h + d) + nmF (fun x => p (x + 8 * (h + d))) w = _
    rw [tot_h d q, nmF_0 (p := fun x => p (x + 8 * (h + d))) (fun i hi => q i (h + d) hi (by omega))]
    omega
theorem nm_in {p : Nat → Bool} {w h : Nat} (hw : w ≤ 8) (hh : h ≤ 8) (q : ∀ f, f < 64 → (w ≤ f % 8 ∨ h ≤ f / 8) → p f = false) : nmF p 64 = totF p w h := by
  rw [show 64 = 8 * 8 from rfl, nm_tot p 8, tot_w hw (fun x y h1 h2 h3 => q (x + 8 * y) (by omega) (by omega))]
  obtain ⟨d, e⟩ : ∃ d, 8 = h + d := ⟨8 - h, by omega⟩
  have : ∀ y, h ≤ y → y < 8 → ∀ x, x < w → p (x + 8 * y) = false := fun y h1 h2 x h3 => q (x + 8 * y) (by omega) (by omega)
  have t : ∀ d, h + d ≤ 8 → totF p w (h + d) = totF p w h := by
    intro d
    induction d with
    | zero => intro _; rfl
    | succ d ih =>
      intro hd
      show totF p w (h + d) + nmF (fun x => p (x + 8 * (h + d))) w = _
      rw [ih (by omega), nmF_0 (p := fun x => p (x + 8 * (h + d))) (fun i hi => this (h + d) (by omega) (by omega) i hi)]
      omega
  have := t d (by omega)
  rw [← e] at this
  exact this
theorem nm_3 {p q r : Nat → Bool} : ∀ {w : Nat}, (∀ i, i < w → r i = (!p i && !q i) ∧ (p i && q i) = false) → nmF p w + nmF q w + nmF r w = w
  | 0, _ => rfl
  | w + 1, h => by
    have e : nmF p w + nmF q w + nmF r w = w := nm_3 (p := p) (q := q) (r := r) (w := w) (fun i hi => h i (by omega))
    obtain ⟨h1, h2⟩ := h w (by omega)
    show nmF p w + (if p w then 1 else 0) + (nmF q w + (if q w then 1 else 0)) + (nmF r w + (if r w then 1 else 0)) = w + 1
    rw [h1]
    revert h2 e
    generalize nmF p w = a
    generalize nmF q w = b
    generalize nmF r w = c
    generalize p w = t
    generalize q w = u
    intro e h2
    cases t <;> cases u
    · show a + 0 + (b + 0) + (c + 1) = w + 1; omega
    · show a + 0 + (b + 1) + (c + 0) = w + 1; omega
    · show a + 1 + (b + 0) + (c + 0) = w + 1; omega
    · cases h2
theorem tot_3 {p q r : Nat → Bool} {w : Nat} : ∀ {h : Nat}, (∀ x y, x < w → y < h → r (x + 8 * y) = (!p (x + 8 * y) && !q (x + 8 * y)) ∧ (p (x + 8 * y) && q (x + 8 * y)) = false) → totF p w h + totF q w h + totF r w h = w * h
  | 0, _ => rfl
  | h + 1, z => by
    have e := tot_3 (w := w) (h := h) (fun x y h1 h2 => z x y h1 (by omega))
    have e2 := nm_3 (p := fun x => p (x + 8 * h)) (q := fun x => q (x + 8 * h)) (r := fun x => r (x + 8 * h)) (w := w) (fun i hi => z i h hi (by omega))
    unfold totF
    rw [Nat.mul_succ]
    omega
theorem tk_who {B : Bas} {P : Nat → Nat} (f : Nat) : tkA B P f = (whoN (fbA B P) (bn B) f).isSome := by
  cases e : whoN (fbA B P) (bn B) f with
  | none =>
    show tkA B P f = false
    rw [← Bool.not_eq_true, tkA_t]
    rintro ⟨c, h1, h2⟩
    rw [whoN_none.mp e c h1] at h2; cases h2
  | some c => rw [tkA_t.mpr ⟨c, whoN_mem e⟩]; rfl
def frF (B : Bas) (P : Nat → Nat) (f : Nat) : Bool := !bwl B f && !tkA B P f
theorem m_cntX {B : Bas} {P : Nat → Nat} {y : Nat} {kwl kwho : Nat → Int32} (h : basOk B) (hwl : rfW B kwl) (ho : rfO B P kwho) (hy : y < 8) (v1 : Int32) (a b : Nat) :
    ∀ (d x n : Nat), x + d = bw B → d < n → f_BargeBasinModel_count_L62 v1 (nI y) (nI (bw B)) kwl kwho n (nI (a + nmF (fun i => bwl B (i + 8 * y)) x)) (nI (b + nmF (fun i => frF B P (i + 8 * y)) x)) (nI x) = some (nI (a + nmF (fun i => bwl B (i + 8 * y)) (bw B)), nI (b + nmF (fun i => frF B P (i + 8 * y)) (bw B))) := by
  have w8 := h.2.1
  intro d
  induction d with
  | zero =>
    intro x n q hn
    obtain ⟨m, rfl⟩ : ∃ m, n = m + 1 := ⟨n - 1, by omega⟩
    have e : x = bw B := by omega
    subst e
    rw [f_BargeBasinModel_count_L62, if_pos (nI_le (Nat.le_refl _) (by omega))]
  | succ d ih =>
    intro x n q hn
    obtain ⟨m, rfl⟩ : ∃ m, n = m + 1 := ⟨n - 1, by omega⟩
    have e : nI x + (8 : Int32) * nI y = nI (x + 8 * y) := by rw [i8, nI_add]
    have i := ih (x + 1) m (by omega) (by omega)
    rw [f_BargeBasinModel_count_L62, if_neg (nI_ge (show x < bw B by omega) (by omega)), e]
    unfold f_BargeBasinModel_count_J93
    simp only [e, ev_grdN _ (show x + 8 * y < 64 by omega) (show 64 < 2 ^ 31 by decide), nI_clamp (show x + 8 * y < 2 ^ 31 by omega), ev_bnd, nI_1, hwl _ (show x + 8 * y < 64 by omega), ho _ (show x + 8 * y < 64 by omega)]
    rw [← i]
    show _ = f_BargeBasinModel_count_L62 v1 (nI y) (nI (bw B)) kwl kwho m (nI (a + (nmF (fun i => bwl B (i + 8 * y)) x + (if bwl B (x + 8 * y) then 1 else 0)))) (nI (b + (nmF (fun i => frF B P (i + 8 * y)) x + (if frF B P (x + 8 * y) then 1 else 0)))) (nI (x + 1))
    unfold frF
    rw [tk_who]
    cases bwl B (x + 8 * y) with
    | true =>
      rw [if_neg (show ¬ bI true = 0 by decide), if_neg (show ¬ bI true = 0 by decide)]
      show f_BargeBasinModel_count_L62 v1 (nI y) (nI (bw B)) kwl kwho m _ (nI _ + nI 0) _ = _
      rw [nI_add]
      rfl
    | false =>
      rw [if_pos (show bI false = 0 by decide), if_pos (show bI false = 0 by decide)]
      cases eo : whoN (fbA B P) (bn B) (x + 8 * y) with
      | none =>
        rw [if_neg (show ¬ 0 ≤ oI none by decide)]
        show f_BargeBasinModel_count_L62 v1 (nI y) (nI (bw B)) kwl kwho m (nI _ + nI 0) _ _ = _
        rw [nI_add]
        rfl
      | some c =>
        have hb := (whoN_mem eo).1
        have n12 := h.2.2.2.2.1
        have eI : oI (some c) = nI c := rfl
        rw [eI, if_pos (show (0 : Int32) ≤ nI c from Int32.not_lt.mp (nI_nn (by omega)))]
        show f_BargeBasinModel_count_L62 v1 (nI y) (nI (bw B)) kwl kwho m (nI _ + nI 0) (nI _ + nI 0) _ = _
        rw [nI_add, nI_add]
        rfl
theorem m_cntY {B : Bas} {P : Nat → Nat} {kwl kwho : Nat → Int32} (h : basOk B) (hwl : rfW B kwl) (ho : rfO B P kwho) (v1 : Int32) :
    ∀ (d y n : Nat), y + d = bh B → d < n → f_BargeBasinModel_count_L50 v1 (nI (bw B)) (nI (bh B)) kwl kwho n (nI (totF (bwl B) (bw B) y)) (nI (totF (frF B P) (bw B) y)) (nI y) = some (nI (totF (bwl B) (bw B) (bh B)), nI (totF (frF B P) (bw B) (bh B))) := by
  have w8 := h.2.1
  have h8 := h.2.2.2.1
  intro d
  induction d with
  | zero =>
    intro y n q hn
    obtain ⟨m, rfl⟩ : ∃ m, n = m + 1 := ⟨n - 1, by omega⟩
    have e : y = bh B := by omega
    subst e
    rw [f_BargeBasinModel_count_L50, if_pos (nI_le (Nat.le_refl _) (by omega))]
  | succ d ih =>
    intro y n q hn
    obtain ⟨m, rfl⟩ : ∃ m, n = m + 1 := ⟨n - 1, by omega⟩
    have e1 := m_cntX h hwl ho (show y < 8 by omega) v1 (totF (bwl B) (bw B) y) (totF (frF B P) (bw B) y) (bw B) 0 jN (by omega) (by show bw B < 2000000; omega)
    rw [f_BargeBasinModel_count_L50, if_neg (nI_ge (show y < bh B by omega) (by omega)), ev_b _ (show f_BargeBasinModel_count_L62 v1 (nI y) (nI (bw B)) kwl kwho jN (nI (totF (bwl B) (bw B) y)) (nI (totF (frF B P) (bw B) y)) 0 = _ from e1), un2_ap, ev_bnd, nI_1]
    exact ih (y + 1) m (by omega) (by omega)
theorem m_isFreed {B : Bas} {P : Nat → Nat} {kk kg khe : Nat → Int32} (h : basOk B) (hi : insA B P) (hk : ∀ b, b < bn B → kk b = nI (bK B b)) (hg : chG B kg) (hp : chP B P khe) : f_BargeBasinModel_isFreed (nI (bn B)) kk kg khe = some (bI (freedA B P)) := by
  have n12 := h.2.2.2.2.1
  have loop : ∀ (r b n : Nat), b + r = bn B → r < n → f_BargeBasinModel_isFreed_L2 (nI (bn B)) kk kg khe n (nI b) = some (if (List.range' b (bn B - b)).all (fun b => !(decide (bK B b = 5) && decide (P b ≠ bG B b))) then .inr () else .inl ()) := by
    intro r
    induction r with
    | zero =>
      intro b n h1 h2
      obtain ⟨n, rfl⟩ : ∃ z, n = z + 1 := ⟨n - 1, by omega⟩
      have e : b = bn B := by omega
      subst e
      rw [f_BargeBasinModel_isFreed_L2, if_pos (nI_le (Nat.le_refl _) (by omega))]
      simp
    | succ r ih =>
      intro b n h1 h2
      obtain ⟨n, rfl⟩ : ∃ z, n = z + 1 := ⟨n - 1, by omega⟩
      have hb : b < bn B := by omega
      obtain ⟨a1, a2, -⟩ := basOk_wh h hb
      have p64 := ins_64 h hi hb
      have c5 : (nI (bK B b) = 5) = (bK B b = 5) := nI_eqL (j := 5) (by omega) (by decide)
      rw [f_BargeBasinModel_isFreed_L2, if_neg (nI_ge hb (by omega)), ev_grdN _ a1 (by decide), ev_grdN _ a1 (by decide), ev_grdN _ a1 (by decide), cl_nI a1, hk b hb, hp b hb, all_from hb, ev_bnd, nI_1, ih (b + 1) n (by omega) (by omega)]
      simp only [c5]
      by_cases k5 : bK B b = 5
      · have g64 := h.2.2.2.2.2.2 b hb k5
        have ce : (nI (P b) = nI (bG B b)) = (P b = bG B b) := nI_eqL (by omega) (by omega)
        rw [hg b hb k5]
        simp only [ce]
        by_cases e : P b = bG B b
        · have be : (decide (bK B b = 5) && decide (P b ≠ bG B b)) = false := by simp [e]
          rw [be, Bool.not_false, Bool.true_and, if_pos k5, if_pos e]
        · have be : (decide (bK B b = 5) && decide (P b ≠ bG B b)) = true := by simp [k5, e]
          rw [be, if_pos k5, if_neg e]; rfl
      · have be : (decide (bK B b = 5) && decide (P b ≠ bG B b)) = false := by simp [k5]
        rw [be, Bool.not_false, Bool.true_and, if_neg k5]
  unfold f_BargeBasinModel_isFreed
  have e := loop (bn B) 0 jN (by omega) (by show bn B < 2000000; omega)
  rw [Nat.sub_zero, ← List.range_eq_range', nI_0] at e
  rw [ev_b _ e]
  unfold freedA
  cases (List.range (bn B)).all (fun b => !(decide (bK B b = 5) && decide (P b ≠ bG B b))) <;> rfl
theorem to7 {v : Int32} (h0 : ¬ v < 0) (h7 : v ≤ 7) : v = 0 ∨ v = 1 ∨ v = 2 ∨ v = 3 ∨ v = 4 ∨ v = 5 ∨ v = 6 ∨ v = 7 := by
  have t0 : (0 : Int32).toInt = 0 := rfl
  have t1 : (1 : Int32).toInt = 1 := by decide
  have t2 : (2 : Int32).toInt = 2 := by decide
  have t3 : (3 : Int32).toInt = 3 := by decide
  have t4 : (4 : Int32).toInt = 4 := by decide
  have t5 : (5 : Int32).toInt = 5 := by decide
  have t6 : (6 : Int32).toInt = 6 := by decide
  have t7 : (7 : Int32).toInt = 7 := by decide
  rw [Int32.lt_iff_toInt_lt, t0] at h0
  rw [Int32.le_iff_toInt_le, t7] at h7
  simp only [← Int32.toInt_inj, t0, t1, t2, t3, t4, t5, t6, t7]
  omega
theorem eq_count {B : Bas} {P : Nat → Nat} {cw chh cn : Int32} {cwl ct : Int64} {ck cp cl cg ca cwd chg : Nat → Int32} {cs : Nat → Int64} {khas kw kh kn : Int32} {kwl kk kat ks ky kg : Nat → Int32} {lf ld lu um rm : Int32} {lm ub uf ut rb rf rt : Nat → Int32} (h : basOk B) (hP : stC B P) (hc : chX B P cw chh cn cwl ct ck cp cl cg ca cwd chg cs) (hr : rfX B P khas kw kh kn kwl kk kat ks ky kg) (hl : lgR B P lf ld lu lm um rm ub uf ut rb rf rt) (ho : ∀ f, f < 64 → (bw B ≤ f % 8 ∨ bh B ≤ f / 8) → bwl B f = false) (v1 st st2 th : Int32) (kwho khe : Nat → Int32) :
    ∃ (ans st' : Int32) (kwho' khe' : Nat → Int32), f_BargeBasin_count v1 st cw chh cn cwl ct ck cp cg ld lu = some (ans, st') ∧ f_BargeBasinModel_count v1 st2 th khas kw kh kn um rm kwl kk kat ks ky kg kwho khe = some (ans, st', 0, kwho', khe') := by
  obtain ⟨c1, c2, c3, c4, c5, c6, c7, c8, c9⟩ := hc
  obtain ⟨r1, r2, r3, r4, r5, r6, r7, r8⟩ := hr
  obtain ⟨T, S, D, -, ⟨f0, -, -, l1, l2, -⟩, l3, l4, -⟩ := hl
  subst c1; subst c2; subst c3; subst r1; subst r2; subst r3; subst r4; subst l1; subst l2; subst l3; subst l4
  have w8 := h.2.1
  have h8 := h.2.2.2.1
  obtain ⟨kw1, kh1, e1, o1, p1⟩ := m_layAllB h hP.1.1 r6 r7 kwho khe
  have e2 := m_cntY h r5 o1 v1 (bh B) 0 jN (by omega) (by show bh B < 2000000; omega)
  have bt1 := s_bitCount c4
  have bt2 := s_bitCount c5
  have tki : ∀ f, f < 64 → (bw B ≤ f % 8 ∨ bh B ≤ f / 8) → tkA B P f = false := by
    intro f hf ha
    rw [← Bool.not_eq_true, tkA_t]
    rintro ⟨c, h1, h2⟩
    have := fb_w hP.1.1 h1 h2
    omega
  have n1 := nm_in w8 h8 ho
  have n2 := nm_in w8 h8 tki
  have n3 := tot_3 (p := bwl B) (q := tkA B P) (r := frF B P) (w := bw B) (h := bh B) (fun x y hx hy => ⟨rfl, by
    cases e : tkA B P (x + 8 * y) with
    | false => rw [Bool.and_false]
    | true =>
      obtain ⟨c, h1, h2⟩ := tkA_t.mp e
      rw [hP.1.2.2 c _ h1 (by omega) h2]; rfl⟩)
  have fr := s_isFreed h hP.1.1 (fun b hb => (c6 b hb).1) c7 c9
  have fr2 := m_isFreed h hP.1.1 (fun b hb => (r6 b hb).1) r8 p1
  unfold f_BargeBasin_count f_BargeBasinModel_count
  rw [ev_b _ (noBas h), if_pos rfl, if_neg (show ¬ (1 : Int32) = 0 by decide), ev_b _ bt1]
  have neg : ∀ v : Int32, v < 0 → ¬ v = 0 ∧ ¬ v = 1 ∧ ¬ v = 2 ∧ ¬ v = 3 ∧ ¬ v = 4 ∧ ¬ v = 5 ∧ ¬ v = 6 ∧ ¬ v = 7 := by
    intro v hv
    refine ⟨?_, ?_, ?_, ?_, ?_, ?_, ?_, ?_⟩ <;> (rintro rfl; exact absurd hv (by decide))
  have big : ∀ v : Int32, ¬ v ≤ 7 → ¬ v = 0 ∧ ¬ v = 1 ∧ ¬ v = 2 ∧ ¬ v = 3 ∧ ¬ v = 4 ∧ ¬ v = 5 ∧ ¬ v = 6 ∧ ¬ v = 7 := by
    intro v hv
    refine ⟨?_, ?_, ?_, ?_, ?_, ?_, ?_, ?_⟩ <;> (rintro rfl; exact absurd (by decide) hv)
  by_cases a : v1 < 0
  · obtain ⟨g0, g1, g2, g3, g4, g5, g6, g7⟩ := neg v1 a
    rw [if_neg g0, if_neg g1, if_neg g2, if_neg g3, if_neg g4, if_neg g5, if_neg g6, if_neg g7, if_pos a]
    exact ⟨_, _, _, _, rfl, rfl⟩
  · rw [if_neg a]
    by_cases z : v1 ≤ 7
    · rw [if_pos z, ev_b _ e1, un2_ap, ev_b _ (show f_BargeBasinModel_count_L50 v1 (nI (bw B)) (nI (bh B)) kwl kw1 jN 0 0 0 = _ from e2), un2_ap]
      rcases to7 a z with e | e | e | e | e | e | e | e <;> subst e
      · exact ⟨_, _, _, _, rfl, rfl⟩
      · exact ⟨_, _, _, _, rfl, rfl⟩
      · exact ⟨_, _, _, _, rfl, rfl⟩
      · rw [n1]; exact ⟨_, _, _, _, rfl, rfl⟩
      · have ev : nI (bw B) * nI (bh B) - nI (nmF (bwl B) 64) - nI (nmF (tkA B P) 64) = nI (totF (frF B P) (bw B) (bh B)) := by
          rw [n1, n2, pk_mul, ← n3]
          have sb : ∀ a b, nI (a + b) - nI a = nI b := fun a b => by rw [← nI_add, Int32.add_comm, Int32.add_sub_cancel]
          rw [Nat.add_assoc, sb, sb]
        refine ⟨nI (totF (frF B P) (bw B) (bh B)), 0, kw1, kh1, ?_, rfl⟩
        rw [ev_b _ bt2, ev]; rfl
      · rw [ev_b _ fr, ev_b _ fr2]
        cases freedA B P
        · exact ⟨_, _, _, _, rfl, rfl⟩
        · exact ⟨_, _, _, _, rfl, rfl⟩
      · exact ⟨_, _, _, _, rfl, rfl⟩
      · exact ⟨_, _, _, _, rfl, rfl⟩
    · obtain ⟨g0, g1, g2, g3, g4, g5, g6, g7⟩ := big v1 z
      rw [if_neg g0, if_neg g1, if_neg g2, if_neg g3, if_neg g4, if_neg g5, if_neg g6, if_neg g7, if_neg z]
      exact ⟨_, _, _, _, rfl, rfl⟩
