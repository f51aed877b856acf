/-! lies; a barge taken away (drop, remove); lift. -/
theorem and7 {p : Nat} (h : p < 64) : nI p &&& 7 = nI (p % 8) := pk_andN (n := p) (by omega) 3 (by decide)
theorem geo_r9 {q : Nat} (hq : q < 2 ^ 31) : nI q - nI (q / 8) * 8 = nI (q % 8) := by
  rw [← geo_d8 hq, geo_r8 hq]
theorem shr3 : ∀ p, p < 64 → jishr (nI p) 3 = nI (p / 8) := by decide +kernel
theorem eq_lies {B : Bas} {P : Nat → Nat} {cw chh cn : Int32} {cwl ct : Int64} {ck cp cl cg ca cwd chg : Nat → Int32} {cs : Nat → Int64} {khas kw kh kn : Int32} {kwl kk kat ks ky kg : Nat → Int32} (h : basOk B) (hP : stC B P) (hc : chX B P cw chh cn cwl ct ck cp cl cg ca cwd chg cs) (hr : rfX B P khas kw kh kn kwl kk kat ks ky kg) (v1 v2 st st2 th : Int32) :
    ∃ ans st', f_BargeBasin_lies v1 v2 st cw cn ck cp cl cg ca = some (ans, st') ∧ f_BargeBasinModel_lies v1 v2 st2 th khas kn kk kat ks ky kg = some (ans, st', 0) := by
  obtain ⟨c1, c2, c3, c4, c5, c6, c7, c8, c9⟩ := hc
  obtain ⟨r1, r2, r3, r4, r5, r6, r7, r8⟩ := hr
  subst c1; subst c2; subst c3; subst r1; subst r2; subst r3; subst r4
  have n12 := h.2.2.2.2.1
  unfold f_BargeBasin_lies f_BargeBasinModel_lies f_BargeBasin_lies_J56
  rw [if_neg (show ¬ (1 : Int32) = 0 by decide)]
  rcases ix3 v1 (show bn B < 2 ^ 31 by omega) with z | ⟨b, hb, z⟩
  · rw [ev_b _ (fb_cn h z), ev_b _ (ib_cn z), if_neg (show ¬ (2 : Int32) = 0 by decide), if_pos rfl]
    exact ⟨-1, 2, rfl, rfl⟩
  · subst z
    obtain ⟨a1, a2, a3, -⟩ := basOk_wh h hb
    obtain ⟨k1, k2, k3, k4, k5⟩ := c6 b hb
    obtain ⟨m1, m2, m3⟩ := r6 b hb
    have p64 := ins_64 h hP.1.1 hb
    rw [ev_b _ (fb_c h hb), ev_b _ (ib_c h hb), if_pos rfl, if_neg (show ¬ (1 : Int32) = 0 by decide)]
    by_cases x : v2 < 0
    · rw [if_pos x, if_pos x]; exact ⟨-1, 2, rfl, rfl⟩
    · rw [if_neg x, if_neg x]
      by_cases y : v2 ≤ 6
      · rw [if_pos y, if_pos y]
        obtain ⟨q, q6, eq⟩ := nI_of2 (M := 6) (n := 6) (by decide) x y
        subst eq
        unfold f_Chart_detail
        simp only [ev_grdN _ a1 (show 12 < 2 ^ 31 by decide), cl_nI a1, k1, k2, m1, m2, m3, c7 b hb, c8 b hb, r7 b hb, and7 p64, shr3 _ p64, ev_div _ (show ¬ (8 : Int32) = 0 by decide), geo_d8 (show P b < 2 ^ 31 by omega), geo_r9 (show P b < 2 ^ 31 by omega)]
        have ce : (nI (bK B b) = 5) = (bK B b = 5) := nI_eqL (j := 5) (by omega) (by decide)
        simp only [ce]
        have qq : q = 0 ∨ q = 1 ∨ q = 2 ∨ q = 3 ∨ q = 4 ∨ q = 5 ∨ q = 6 := by omega
        have way : (if bI (decide (bY B b = 1)) = 0 then some (0 : Int32) else some 1) = some (nI (bY B b)) := by
          have : bY B b = 0 ∨ bY B b = 1 := by omega
          rcases this with e | e <;> rw [e] <;> rfl
        by_cases k5' : bK B b = 5
        · have g64 := h.2.2.2.2.2.2 b hb k5'
          rw [c9 b hb k5', r8 b hb k5', and7 g64, shr3 _ g64, geo_r8 (show bG B b < 2 ^ 31 by omega), geo_d8 (show bG B b < 2 ^ 31 by omega)]
          simp only [if_pos k5', way]
          rcases qq with e | e | e | e | e | e | e <;> subst e <;> exact ⟨_, 0, rfl, rfl⟩
        · simp only [if_neg k5', way]
          rcases qq with e | e | e | e | e | e | e <;> subst e
          · exact ⟨_, 0, rfl, rfl⟩
          · exact ⟨_, 0, rfl, rfl⟩
          · exact ⟨_, 0, rfl, rfl⟩
          · exact ⟨_, 0, rfl, rfl⟩
          · exact ⟨_, 0, rfl, rfl⟩
          · exact ⟨-1, 5, rfl, rfl⟩
          · exact ⟨-1, 5, rfl, rfl⟩
      · rw [if_neg y, if_neg y]; exact ⟨-1, 2, rfl, rfl⟩
/-- the moves are forgotten -/
theorem lgR_forget {B B' : Bas} {P Q : Nat → Nat} {lf ld lu um rm : Int32} {lm ub uf ut rb rf rt : Nat → Int32} (h : lgR B P lf ld lu lm um rm ub uf ut rb rf rt) (hQ : stC B' Q) : lgR B' Q lf 0 0 lm 0 0 ub uf ut rb rf rt := by
  obtain ⟨T, S, D, t1, ⟨f, f1, f60, -⟩, -⟩ := h
  refine ⟨[], fun _ => Q, 0, ⟨by simp, Nat.le_refl _, rfl, fun k _ => hQ, fun k hk => by cases hk⟩, ⟨f, f1, f60, rfl, rfl, fun k hk => by cases hk⟩, rfl, rfl, fun k hk => by omega, fun j hj => by simp at hj⟩
/-! One barge less. -/
def sk (b i : Nat) : Nat := if i < b then i else i + 1
def dropB (B : Bas) (b : Nat) : Bas := (bw B, bh B, bn B - 1, fun i => bK B (sk b i), fun i => bS B (sk b i), fun i => bY B (sk b i), fun i => bG B (sk b i), bwl B)
def dropP (P : Nat → Nat) (b : Nat) : Nat → Nat := fun i => P (sk b i)
theorem sk_lt {n b i : Nat} (hb : b < n) (hi : i < n - 1) : sk b i < n := by unfold sk; split <;> omega
theorem sk_ne {b i : Nat} : sk b i ≠ b := by unfold sk; split <;> omega
theorem sk_inj {b i j : Nat} (h : sk b i = sk b j) : i = j := by
  unfold sk at h
  split at h <;> split at h <;> omega
theorem sk_onto {n b c : Nat} (hc : c < n) (hne : c ≠ b) (hb : b < n) : ∃ i, i < n - 1 ∧ sk b i = c := by
  by_cases h : c < b
  · exact ⟨c, by omega, by unfold sk; rw [if_pos h]⟩
  · exact ⟨c - 1, by omega, by unfold sk; rw [if_neg (by omega)]; omega⟩
theorem drop_xW {B : Bas} {b i : Nat} : xW (dropB B b) i = xW B (sk b i) ∧ xH (dropB B b) i = xH B (sk b i) := ⟨rfl, rfl⟩
theorem drop_fb {B : Bas} {P : Nat → Nat} {b i f : Nat} : fbA (dropB B b) (dropP P b) i f = fbA B P (sk b i) f := rfl
theorem drop_bas {B : Bas} {b : Nat} (h : basOk B) (hb : b < bn B) : basOk (dropB B b) := by
  obtain ⟨h1, h2, h3, h4, h5, h6, h7⟩ := h
  exact ⟨h1, h2, h3, h4, by show bn B - 1 ≤ 12; omega, fun i hi => h6 _ (sk_lt hb hi), fun i hi e => h7 _ (sk_lt hb hi) e⟩
theorem drop_st {B : Bas} {P : Nat → Nat} {b : Nat} (hs : stC B P) (hb : b < bn B) : stC (dropB B b) (dropP P b) := by
  obtain ⟨⟨s1, s2, s3⟩, s4⟩ := hs
  refine ⟨⟨fun i hi => s1 _ (sk_lt hb hi), fun i j f hi hj hf e1 e2 => ?_, fun i f hi hf e => s3 _ f (sk_lt hb hi) hf e⟩, fun i hi => ?_, fun i hi e => s4.2 _ (sk_lt hb hi) e⟩
  · exact sk_inj (s2 _ _ f (sk_lt hb hi) (sk_lt hb hj) hf e1 e2)
  · have hi' : bn B - 1 ≤ i := hi
    show P (sk b i) = 0
    unfold sk
    rw [if_neg (by omega)]
    exact s4.1 _ (by omega)
theorem s_dropL {n b : Nat} {k0 p0 l0 g0 a0 wd0 hg0 : Nat → Int32} {s0 : Nat → Int64} (hn : n ≤ 12) (hb : b < n) (ha : ∀ i, i < n → vp_nar .boolean (a0 i) = a0 i) :
    ∀ (r j m : Nat) (k p l g a wd hg : Nat → Int32) (s : Nat → Int64), j + r = n → b < j → r < m →
      (∀ i, k i = k0 (if i + 1 < j then sk b i else i) ∧ p i = p0 (if i + 1 < j then sk b i else i) ∧ l i = l0 (if i + 1 < j then sk b i else i) ∧ g i = g0 (if i + 1 < j then sk b i else i) ∧ a i = a0 (if i + 1 < j then sk b i else i) ∧ wd i = wd0 (if i + 1 < j then sk b i else i) ∧ hg i = hg0 (if i + 1 < j then sk b i else i) ∧ s i = s0 (if i + 1 < j then sk b i else i)) →
      ∃ k' p' l' g' a' wd' hg' s', f_Chart_drop_L22 (nI n) m (nI j) k p l g a wd hg s = some (k', p', l', g', a', wd', hg', s') ∧ ∀ i, i < n - 1 → k' i = k0 (sk b i) ∧ p' i = p0 (sk b i) ∧ l' i = l0 (sk b i) ∧ g' i = g0 (sk b i) ∧ a' i = a0 (sk b i) ∧ wd' i = wd0 (sk b i) ∧ hg' i = hg0 (sk b i) ∧ s' i = s0 (sk b i) := by
  intro r
  induction r with
  | zero =>
    intro j m k p l g a wd hg s h1 h2 h3 h4
    obtain ⟨m, rfl⟩ : ∃ z, m = z + 1 := ⟨m - 1, by omega⟩
    refine ⟨k, p, l, g, a, wd, hg, s, by rw [f_Chart_drop_L22, if_pos (nI_le (by omega) (by omega))], fun i hi => ?_⟩
    have := h4 i
    rw [if_pos (show i + 1 < j by omega)] at this
    exact this
  | succ r ih =>
    intro j m k p l g a wd hg s h1 h2 h3 h4
    obtain ⟨m, rfl⟩ : ∃ z, m = z + 1 := ⟨m - 1, by omega⟩
    have jm : nI j - 1 = nI (j - 1) := pk_sub (a := j) (b := 1) (by omega)
    have hj := h4 j
    rw [if_neg (show ¬ j + 1 < j by omega)] at hj
    obtain ⟨q1, q2, q3, q4, q5, q6, q7, q8⟩ := hj
    have cb : f_Chart_copyBarge_e1 (nI j) (nI (j - 1)) k p l g a wd hg s = some (upd k (j - 1) (k0 j), upd p (j - 1) (p0 j), upd l (j - 1) (l0 j), upd g (j - 1) (g0 j), upd a (j - 1) (a0 j), upd wd (j - 1) (wd0 j), upd hg (j - 1) (hg0 j), vp_updL s (j - 1) (s0 j)) := by
      unfold f_Chart_copyBarge_e1
      simp only [ev_grdN _ (show j < 12 by omega) (show 12 < 2 ^ 31 by decide), ev_grdN _ (show j - 1 < 12 by omega) (show 12 < 2 ^ 31 by decide), ev_bnd, cl_nI (show j < 12 by omega), cl_nI (show j - 1 < 12 by omega), q1, q2, q3, q4, q5, q6, q7, q8, ha j (by omega)]
    rw [f_Chart_drop_L22, if_neg (nI_ge (by omega) (by omega)), jm, ev_b _ cb, un8_ap, ev_bnd, nI_1]
    refine ih (j + 1) m _ _ _ _ _ _ _ _ (by omega) (by omega) (by omega) (fun i => ?_)
    by_cases z : i = j - 1
    · subst z
      have e : (if j - 1 + 1 < j + 1 then sk b (j - 1) else j - 1) = j := by
        rw [if_pos (by omega)]; unfold sk; rw [if_neg (by omega)]; omega
      rw [e]
      exact ⟨pk_us, pk_us, pk_us, pk_us, pk_us, pk_us, pk_us, pk_uLs⟩
    · have e : (if i + 1 < j + 1 then sk b i else i) = (if i + 1 < j then sk b i else i) := by
        by_cases y : i + 1 < j
        · rw [if_pos y, if_pos (by omega)]
        · rw [if_neg y, if_neg (by omega)]
      rw [e, pk_un z, pk_un z, pk_un z, pk_un z, pk_un z, pk_un z, pk_un z, pk_uLn z]
      exact h4 i
theorem s_drop {B : Bas} {P : Nat → Nat} {b : Nat} {cw chh cn : Int32} {cwl ct : Int64} {ck cp cl cg ca cwd chg : Nat → Int32} {cs : Nat → Int64} (h : basOk B) (hP : stC B P) (hc : chX B P cw chh cn cwl ct ck cp cl cg ca cwd chg cs) (hb : b < bn B) :
    ∃ cn' ct' ck' cp' cl' cg' ca' cwd' chg' cs', f_Chart_drop (nI b) cn ct ck cp cl cg ca cwd chg cs = some (cn', ct', ck', cp', cl', cg', ca', cwd', chg', cs') ∧ chX (dropB B b) (dropP P b) cw chh cn' cwl ct' ck' cp' cl' cg' ca' cwd' chg' cs' := by
  obtain ⟨c1, c2, c3, c4, c5, c6, c7, c8, c9⟩ := hc
  subst c1; subst c2; subst c3
  have n12 := h.2.2.2.2.1
  obtain ⟨x, e1, t1⟩ := s_fields h hP.1.1 c6 c7 hb
  obtain ⟨k', p', l', g', a', wd', hg', s', e2, q⟩ := s_dropL (n := bn B) (k0 := ck) (p0 := cp) (l0 := cl) (g0 := cg) (a0 := ca) (wd0 := cwd) (hg0 := chg) (s0 := cs) n12 hb (fun i hi => by rw [(c6 i hi).2.1]; exact nar_bI _) (bn B - (b + 1)) (b + 1) jN ck cp cl cg ca cwd chg cs (by omega) (by omega) (by show _ < 2000000; omega) (fun i => by
    have : (if i + 1 < b + 1 then sk b i else i) = i := by
      by_cases z : i + 1 < b + 1
      · rw [if_pos z]; unfold sk; rw [if_pos (by omega)]
      · rw [if_neg z]
    rw [this]
    exact ⟨rfl, rfl, rfl, rfl, rfl, rfl, rfl, rfl⟩)
  refine ⟨nI (bn B - 1), ct &&& (x ^^^ (-1)), k', p', l', g', a', wd', hg', s', ?_, rfl, rfl, rfl, c4, ?_, ?_, ?_, ?_, ?_⟩
  · unfold f_Chart_drop
    rw [ev_b _ e1, ev_bnd, ev_bnd, nI_1, ev_b _ e2, un8_ap, ev_bnd, show nI (bn B) - 1 = nI (bn B - 1) from pk_sub (a := bn B) (b := 1) (by omega)]
  · intro f hf
    rw [tb_and, tb_not hf, t1 f hf, c5 f hf, tk_ot hP.1.2.1 hb hf, Bool.eq_iff_iff, otA_t, tkA_t]
    constructor
    · rintro ⟨c, y1, y2, y3⟩
      obtain ⟨i, i1, i2⟩ := sk_onto y1 y2 hb
      exact ⟨i, i1, by rw [drop_fb, i2]; exact y3⟩
    · rintro ⟨i, i1, i2⟩
      exact ⟨sk b i, sk_lt hb i1, sk_ne, i2⟩
  · intro i hi
    obtain ⟨q1, q2, q3, q4, q5, q6, q7, q8⟩ := q i hi
    rw [q1, q5, q6, q7, q8]
    exact c6 _ (sk_lt hb hi)
  · intro i hi
    rw [(q i hi).2.1]; exact c7 _ (sk_lt hb hi)
  · intro i hi
    rw [(q i hi).2.2.1]; exact c8 _ (sk_lt hb hi)
  · intro i hi e
    rw [(q i hi).2.2.2.1]; exact c9 _ (sk_lt hb hi) e
theorem m_removeL {n b : Nat} {k0 p0 s0 y0 g0 : Nat → Int32} (hn : n ≤ 12) (hb : b < n) :
    ∀ (r j m : Nat) (k p s y g : Nat → Int32), j + 1 + r = n → b ≤ j → r < m →
      (∀ i, k i = k0 (if i < j then sk b i else i) ∧ p i = p0 (if i < j then sk b i else i) ∧ s i = s0 (if i < j then sk b i else i) ∧ y i = y0 (if i < j then sk b i else i) ∧ g i = g0 (if i < j then sk b i else i)) →
      ∃ k' p' s' y' g', f_BargeBasinModel_remove_L2 (nI n) m (nI j) k p s y g = some (k', p', s', y', g') ∧ ∀ i, (i < n - 1 → k' i = k0 (sk b i) ∧ p' i = p0 (sk b i) ∧ s' i = s0 (sk b i) ∧ y' i = y0 (sk b i) ∧ g' i = g0 (sk b i)) ∧ (n - 1 ≤ i → k' i = k0 i ∧ p' i = p0 i ∧ s' i = s0 i ∧ y' i = y0 i ∧ g' i = g0 i) := by
  intro r
  induction r with
  | zero =>
    intro j m k p s y g h1 h2 h3 h4
    obtain ⟨m, rfl⟩ : ∃ z, m = z + 1 := ⟨m - 1, by omega⟩
    refine ⟨k, p, s, y, g, by rw [f_BargeBasinModel_remove_L2, nI_1, if_pos (nI_le (by omega) (by omega))], fun i => ⟨fun hi => ?_, fun hi => ?_⟩⟩
    · have := h4 i
      rw [if_pos (show i < j by omega)] at this
      exact this
    · have := h4 i
      rw [if_neg (show ¬ i < j by omega)] at this
      exact this
  | succ r ih =>
    intro j m k p s y g h1 h2 h3 h4
    obtain ⟨m, rfl⟩ : ∃ z, m = z + 1 := ⟨m - 1, by omega⟩
    have hj := h4 (j + 1)
    rw [if_neg (show ¬ j + 1 < j by omega)] at hj
    obtain ⟨q1, q2, q3, q4, q5⟩ := hj
    rw [f_BargeBasinModel_remove_L2]
    simp only [nI_1, if_neg (nI_ge (show j + 1 < n by omega) (show n < 2 ^ 31 by omega)), ev_grdN _ (show j + 1 < 12 by omega) (show 12 < 2 ^ 31 by decide), ev_grdN _ (show j < 12 by omega) (show 12 < 2 ^ 31 by decide), ev_bnd, cl_nI (show j < 12 by omega), cl_nI (show j + 1 < 12 by omega), q1, q2, q3, q4, q5]
    refine ih (j + 1) m _ _ _ _ _ (by omega) (by omega) (by omega) (fun i => ?_)
    by_cases z : i = j
    · subst z
      have e : (if i < i + 1 then sk b i else i) = i + 1 := by
        rw [if_pos (by omega)]; unfold sk; rw [if_neg (by omega)]
      rw [e]
      exact ⟨pk_us, pk_us, pk_us, pk_us, pk_us⟩
    · have e : (if i < j + 1 then sk b i else i) = (if i < j then sk b i else i) := by
        by_cases x : i < j
        · rw [if_pos x, if_pos (by omega)]
        · rw [if_neg x, if_neg (by omega)]
      rw [e, pk_un z, pk_un z, pk_un z, pk_un z, pk_un z]
      exact h4 i
theorem m_remove {B : Bas} {P : Nat → Nat} {b : Nat} {khas kw kh kn : Int32} {kwl kk kat ks ky kg : Nat → Int32} (h : basOk B) (hr : rfX B P khas kw kh kn kwl kk kat ks ky kg) (hb : b < bn B) :
    ∃ kn' kk' kat' ks' ky' kg', f_BargeBasinModel_remove (nI b) kn kk kat ks ky kg = some (kn', kk', kat', ks', ky', kg') ∧ rfX (dropB B b) (dropP P b) khas kw kh kn' kwl kk' kat' ks' ky' kg' := by
  obtain ⟨r1, r2, r3, r4, r5, r6, r7, r8⟩ := hr
  subst r1; subst r2; subst r3; subst r4
  have n12 := h.2.2.2.2.1
  obtain ⟨k', p', s', y', g', e, q⟩ := m_removeL (n := bn B) (k0 := kk) (p0 := kat) (s0 := ks) (y0 := ky) (g0 := kg) n12 hb (bn B - (b + 1)) b jN kk kat ks ky kg (by omega) (Nat.le_refl _) (by show _ < 2000000; omega) (fun i => by
    have : (if i < b then sk b i else i) = i := by
      by_cases z : i < b
      · rw [if_pos z]; unfold sk; rw [if_pos z]
      · rw [if_neg z]
    rw [this]
    exact ⟨rfl, rfl, rfl, rfl, rfl⟩)
  refine ⟨nI (bn B - 1), k', p', s', y', g', ?_, rfl, rfl, rfl, rfl, r5, ?_, ?_, ?_⟩
  · unfold f_BargeBasinModel_remove
    rw [ev_b _ e, un5_ap, ev_bnd, show nI (bn B) - 1 = nI (bn B - 1) from pk_sub (a := bn B) (b := 1) (by omega)]
  · intro i hi
    obtain ⟨q1, q2, q3, q4, q5⟩ := (q i).1 hi
    rw [q1, q3, q4]
    exact r6 _ (sk_lt hb hi)
  · intro i hi
    rw [((q i).1 hi).2.1]; exact r7 _ (sk_lt hb hi)
  · intro i hi e5
    rw [((q i).1 hi).2.2.2.2]; exact r8 _ (sk_lt hb hi) e5
theorem eq_lift {B : Bas} {P : Nat → Nat} {cw chh cn : Int32} {cwl ct : Int64} {ck cp cl cg ca cwd chg : Nat → Int32} {cs : Nat → Int64} {khas kw kh kn : Int32} {kwl kk kat ks ky kg : Nat → Int32} {lf ld lu um rm : Int32} {lm ub uf ut rb rf rt : Nat → Int32} (h : basOk B) (hP : stC B P) (hc : chX B P cw chh cn cwl ct ck cp cl cg ca cwd chg cs) (hr : rfX B P khas kw kh kn kwl kk kat ks ky kg) (hl : lgR B P lf ld lu lm um rm ub uf ut rb rf rt) (v1 st st2 th : Int32) :
    ∃ (ans st' cn' : Int32) (ct' : Int64) (ck' cp' cl' cg' ca' cwd' chg' : Nat → Int32) (cs' : Nat → Int64) (ld' lu' kn' um' rm' : Int32) (kk' kat' ks' ky' kg' : Nat → Int32) (B' : Bas) (Q : Nat → Nat), f_BargeBasin_lift v1 st cw cn ct ck cp cl cg ca cwd chg cs ld lu = some (ans, st', cn', ct', ck', cp', cl', cg', ca', cwd', chg', cs', ld', lu') ∧
      f_BargeBasinModel_lift v1 st2 th khas kn um rm kk kat ks ky kg = some (ans, st', 0, kn', um', rm', kk', kat', ks', ky', kg') ∧
      (B' = B ∨ ∃ b, b < bn B ∧ B' = dropB B b) ∧ basOk B' ∧ stC B' Q ∧ chX B' Q cw chh cn' cwl ct' ck' cp' cl' cg' ca' cwd' chg' cs' ∧ rfX B' Q khas kw kh kn' kwl kk' kat' ks' ky' kg' ∧ lgR B' Q lf ld' lu' lm um' rm' ub uf ut rb rf rt := by
  have n12 := h.2.2.2.2.1
  have h1 := hc.1
  have h3 := hc.2.2.1
  have g1 := hr.1
  have g4 := hr.2.2.2.1
  unfold f_BargeBasin_lift f_BargeBasinModel_lift
  rw [if_neg (show ¬ khas = 0 by rw [g1]; decide)]
  rcases ix3 v1 (show bn B < 2 ^ 31 by omega) with z | ⟨b, hb, z⟩
  · rw [show f_BargeBasin_faultOfBarge v1 cw cn = some 2 by rw [h1, h3]; exact fb_cn h z, show f_BargeBasinModel_isBarge v1 kn = some 0 by rw [g4]; exact ib_cn z, ev_b _ rfl, ev_b _ rfl, if_neg (show ¬ (2 : Int32) = 0 by decide), if_pos rfl]
    exact ⟨0, 2, cn, ct, ck, cp, cl, cg, ca, cwd, chg, cs, ld, lu, kn, um, rm, kk, kat, ks, ky, kg, B, P, rfl, rfl, Or.inl rfl, h, hP, hc, hr, hl⟩
  · subst z
    obtain ⟨cn', ct', ck', cp', cl', cg', ca', cwd', chg', cs', e1, x1⟩ := s_drop h hP hc hb
    obtain ⟨kn', kk', kat', ks', ky', kg', e2, x2⟩ := m_remove h hr hb
    rw [show f_BargeBasin_faultOfBarge (nI b) cw cn = some 0 by rw [h1, h3]; exact fb_c h hb, show f_BargeBasinModel_isBarge (nI b) kn = some 1 by rw [g4]; exact ib_c h hb, ev_b _ rfl, ev_b _ rfl, if_pos rfl, if_neg (show ¬ (1 : Int32) = 0 by decide), ev_b _ e1, un10_ap, ev_b _ e2, un6_ap]
    exact ⟨1, 0, cn', ct', ck', cp', cl', cg', ca', cwd', chg', cs', 0, 0, kn', 0, 0, kk', kat', ks', ky', kg', dropB B b, dropP P b, rfl, rfl, Or.inr ⟨b, hb, rfl⟩, drop_bas h hb, drop_st hP hb, x1, x2, lgR_forget hl (drop_st hP hb)⟩
