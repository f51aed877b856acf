/-! mirror and quarter of the class. -/
theorem nI_subE {a b : Nat} (h : b ≤ a) : nI a - nI b = nI (a - b) := by
  have e : nI a = nI (a - b) + nI b := by rw [nI_add]; congr 1; omega
  rw [e, Int32.add_sub_cancel]
theorem s_mirrored {w h W H p : Nat} (hp : p < 64) (hw : p % 8 + W ≤ w) : f_Chart_mirrored (nI p) (nI W) (nI w) = some (nI (tpl true w h W H p)) := by
  unfold f_Chart_mirrored
  rw [ev_bnd, and7 hp, nI_subE (Nat.mod_le _ _), nI_subE (show p % 8 ≤ w by omega), nI_subE (show W ≤ w - p % 8 by omega), nI_add]
  unfold tpl
  rw [if_pos rfl, show p - p % 8 = p / 8 * 8 by omega]
theorem s_turned {w h W H p : Nat} (hp : p < 64) (hh : p / 8 + H ≤ h) : f_Chart_turned (nI p) (nI H) (nI h) = some (nI (tpl false w h W H p)) := by
  unfold f_Chart_turned
  rw [ev_bnd, ev_bnd, and7 hp, shr3 p hp, i8, nI_subE (show p / 8 ≤ h by omega), nI_subE (show H ≤ h - p / 8 by omega), nI_add]
  rfl
theorem s_form {b k s y : Nat} {ck cl ca cwd chg : Nat → Int32} {cs : Nat → Int64} (hb : b < 12) (hg : bgOk k s y) (h1 : ck b = nI k) (h2 : cl b = nI s) (h3 : ca b = bI (decide (y = 1))) : f_Chart_form (nI b) ck cl ca cwd chg cs = some (upd cwd b (nI (bW k s y)), upd chg b (nI (bH k s y)), vp_updL cs b (shp (bW k s y) (bH k s y))) := by
  obtain ⟨g1, g2, g3, g4, g5, g6, g7⟩ := bgOk_wh hg
  obtain ⟨e1, e2⟩ := bWH hg
  have a1 := s_wideOf (n := s) (decide (y = 1))
  have a2 := s_highOf (n := s) g1 (decide (y = 1))
  rw [e1] at a1
  rw [e2] at a2
  unfold f_Chart_form
  simp only [ev_grdN _ hb (show 12 < 2 ^ 31 by decide), cl_nI hb, pk_us, h1, h2, h3, a1, a2, ev_b _ rfl, s_shapeOf (show bH k s y < 100 by omega)]
theorem bit1 {x : Int64} {k : Nat} (hk : k < 64) : (jlushr x (nI k) &&& 1 = 0) = (tb x k = false) := by
  rw [and0]
  have a : anyF (fun f => tb (jlushr x (nI k)) f && tb 1 f) = tb x k := by
    rw [Bool.eq_iff_iff, anyF_t]
    constructor
    · rintro ⟨f, hf, q⟩
      rw [Bool.and_eq_true, tb_shr hk, tb_1, decide_eq_true_eq] at q
      rw [q.2, Nat.add_zero] at q
      exact q.1
    · intro q
      exact ⟨0, by decide, by rw [tb_shr hk, tb_1, Nat.add_zero, q]; rfl⟩
  rw [a]
/-- the image of the walls below k -/
def wlK (ov : Bool) (B : Bas) (k f : Nat) : Bool := decide (f % 8 < nwT ov (bw B) (bh B)) && (bwl B (pre ov (bw B) (bh B) f) && decide (pre ov (bw B) (bh B) f < k))
theorem wlK_64 {ov : Bool} {B : Bas} (h : basOk B) {f : Nat} (hf : f < 64) : wlK ov B 64 f = bwl (tuB ov B) f := by
  show wlK ov B 64 f = (decide (f % 8 < nwT ov (bw B) (bh B)) && bwl B (pre ov (bw B) (bh B) f))
  unfold wlK
  rw [decide_eq_true (pre_64 (ov := ov) hf h.2.1 h.2.2.2.1 (by have := h.1; omega) (by have := h.2.2.1; omega)), Bool.and_true]
theorem wlK_0 {ov : Bool} {B : Bas} {f : Nat} : wlK ov B 0 f = false := by unfold wlK; simp
theorem wlK_n {ov : Bool} {B : Bas} {k f : Nat} (hk : bwl B k = false) : wlK ov B (k + 1) f = wlK ov B k f := by
  unfold wlK
  congr 1
  by_cases z : pre ov (bw B) (bh B) f = k
  · rw [z, hk, Bool.false_and, Bool.false_and]
  · congr 1
    rw [decide_eq_decide]; omega
theorem wlK_s {ov : Bool} {B : Bas} {k f : Nat} (h : basOk B) (hk : bwl B k = true) (hi : k % 8 < bw B ∧ k / 8 < bh B) (hf : f < 64) : wlK ov B (k + 1) f = (wlK ov B k f || decide (f = tpl ov (bw B) (bh B) 1 1 k)) := by
  have w8 := h.2.1
  have h8 := h.2.2.2.1
  have e : decide (f = tpl ov (bw B) (bh B) 1 1 k) = (decide (f % 8 < nwT ov (bw B) (bh B)) && decide (pre ov (bw B) (bh B) f = k)) := by
    rw [Bool.eq_iff_iff, Bool.and_eq_true, decide_eq_true_eq, decide_eq_true_eq, decide_eq_true_eq]
    unfold tpl nwT pre
    cases ov with
    | true => simp only [if_true]; omega
    | false =>
      simp only [Bool.false_eq_true, if_false]
      constructor
      · intro q
        have q1 : f % 8 = bh B - k / 8 - 1 := by omega
        have q2 : f / 8 = k % 8 := by omega
        rw [q1, q2]
        omega
      · rintro ⟨q1, q2⟩
        have q3 : k % 8 = f / 8 := by omega
        have q4 : k / 8 = bh B - 1 - f % 8 := by omega
        rw [q3, q4]
        omega
  rw [e]
  unfold wlK
  rw [← Bool.and_or_distrib_left]
  congr 1
  by_cases z : pre ov (bw B) (bh B) f = k
  · rw [z, hk]; simp
  · rw [decide_eq_false z, Bool.or_false]
    congr 1
    rw [decide_eq_decide]; omega
theorem s_mirW {B : Bas} {cwl : Int64} (h : basOk B) (hw : chW B cwl) (ho : ∀ f, f < 64 → (bw B ≤ f % 8 ∨ bh B ≤ f / 8) → bwl B f = false) : ∀ (r k n : Nat) (v : Int64), k + r = 64 → r < n → (∀ f, f < 64 → tb v f = wlK true B k f) → ∃ V, f_Chart_mirror_L12 cwl (nI (bw B)) n (nI k) v = some V ∧ chW (tuB true B) V := by
  have w8 := h.2.1
  intro r
  induction r with
  | zero =>
    intro k n v h1 h2 h3
    obtain ⟨n, rfl⟩ : ∃ z, n = z + 1 := ⟨n - 1, by omega⟩
    have e : k = 64 := by omega
    subst e
    exact ⟨v, by rw [f_Chart_mirror_L12, if_pos (show (64 : Int32) ≤ nI 64 by decide)], fun f hf => by rw [h3 f hf, wlK_64 h hf]⟩
  | succ r ih =>
    intro k n v h1 h2 h3
    obtain ⟨n, rfl⟩ : ∃ z, n = z + 1 := ⟨n - 1, by omega⟩
    rw [f_Chart_mirror_L12, if_neg (show ¬ (64 : Int32) ≤ nI k from nI_ge (b := 64) (by omega) (by decide))]
    simp only [cmp0, bit1 (show k < 64 by omega), hw k (by omega), ev_bnd, nI_1]
    cases e : bwl B k with
    | false =>
      rw [if_pos rfl]
      exact ih (k + 1) n v (by omega) (by omega) (fun f hf => by rw [h3 f hf, wlK_n e])
    | true =>
      have hi : k % 8 < bw B ∧ k / 8 < bh B := by
        by_cases q : bw B ≤ k % 8 ∨ bh B ≤ k / 8
        · rw [ho k (by omega) q] at e; cases e
        · omega
      rw [if_neg (by decide), ev_b (x := f_Chart_mirrored (nI k) 1 (nI (bw B))) _ (s_mirrored (h := bh B) (H := 1) (W := 1) (show k < 64 by omega) (show k % 8 + 1 ≤ bw B by omega))]
      have t := (tpl_xy (ov := true) (W := 1) (H := 1) (show k % 8 + 1 ≤ bw B by omega) (show k / 8 + 1 ≤ bh B by omega) w8 h.2.2.2.1 (by decide) (by decide)).2.2
      exact ih (k + 1) n _ (by omega) (by omega) (fun f hf => by rw [tb_or, h3 f hf, tb_one t, wlK_s h e hi hf])
theorem s_quaW {B : Bas} {cwl : Int64} (h : basOk B) (hw : chW B cwl) (ho : ∀ f, f < 64 → (bw B ≤ f % 8 ∨ bh B ≤ f / 8) → bwl B f = false) : ∀ (r k n : Nat) (v : Int64), k + r = 64 → r < n → (∀ f, f < 64 → tb v f = wlK false B k f) → ∃ V, f_Chart_quarter_L12 cwl (nI (bh B)) n (nI k) v = some V ∧ chW (tuB false B) V := by
  have w8 := h.2.1
  intro r
  induction r with
  | zero =>
    intro k n v h1 h2 h3
    obtain ⟨n, rfl⟩ : ∃ z, n = z + 1 := ⟨n - 1, by omega⟩
    have e : k = 64 := by omega
    subst e
    exact ⟨v, by rw [f_Chart_quarter_L12, if_pos (show (64 : Int32) ≤ nI 64 by decide)], fun f hf => by rw [h3 f hf, wlK_64 h hf]⟩
  | succ r ih =>
    intro k n v h1 h2 h3
    obtain ⟨n, rfl⟩ : ∃ z, n = z + 1 := ⟨n - 1, by omega⟩
    rw [f_Chart_quarter_L12, if_neg (show ¬ (64 : Int32) ≤ nI k from nI_ge (b := 64) (by omega) (by decide))]
    simp only [cmp0, bit1 (show k < 64 by omega), hw k (by omega), ev_bnd, nI_1]
    cases e : bwl B k with
    | false =>
      rw [if_pos rfl]
      exact ih (k + 1) n v (by omega) (by omega) (fun f hf => by rw [h3 f hf, wlK_n e])
    | true =>
      have hi : k % 8 < bw B ∧ k / 8 < bh B := by
        by_cases q : bw B ≤ k % 8 ∨ bh B ≤ k / 8
        · rw [ho k (by omega) q] at e; cases e
        · omega
      rw [if_neg (by decide), ev_b (x := f_Chart_turned (nI k) 1 (nI (bh B))) _ (s_turned (w := bw B) (W := 1) (H := 1) (show k < 64 by omega) (show k / 8 + 1 ≤ bh B by omega))]
      have t := (tpl_xy (ov := false) (W := 1) (H := 1) (show k % 8 + 1 ≤ bw B by omega) (show k / 8 + 1 ≤ bh B by omega) w8 h.2.2.2.1 (by decide) (by decide)).2.2
      exact ih (k + 1) n _ (by omega) (by omega) (fun f hf => by rw [tb_or, h3 f hf, tb_one t, wlK_s h e hi hf])
theorem s_mirL {B : Bas} {P : Nat → Nat} {kk ka kw kh : Nat → Int32} {ks : Nat → Int64} (h : basOk B) (hP : stC B P) (hc : chB B kk ka kw kh ks) : ∀ (r b n : Nat) (t : Int64) (p g : Nat → Int32), b + r = bn B → r < n → (∀ c, c < bn B → p c = nI (if c < b then tuP true B P c else P c)) → (∀ c, c < bn B → bK B c = 5 → g c = nI (if c < b then bG (tuB true B) c else bG B c)) → (∀ f, f < 64 → tb t f = (List.range b).any fun c => fbA (tuB true B) (tuP true B P) c f) →
    ∃ t' p' g', f_Chart_mirror_L58 (nI (bw B)) (nI (bn B)) kw ks n (nI b) t p g = some (t', p', g') ∧ chT (tuB true B) (tuP true B P) t' ∧ chP (tuB true B) (tuP true B P) p' ∧ chG (tuB true B) g' := by
  have n12 := h.2.2.2.2.1
  have w8 := h.2.1
  have h8 := h.2.2.2.1
  intro r
  induction r with
  | zero =>
    intro b n t p g h1 h2 h3 h4 h5
    obtain ⟨n, rfl⟩ : ∃ z, n = z + 1 := ⟨n - 1, by omega⟩
    have e : b = bn B := by omega
    subst e
    exact ⟨t, p, g, by rw [f_Chart_mirror_L58, if_pos (nI_le (Nat.le_refl _) (by omega))], h5, fun c hc' => by rw [h3 c hc', if_pos (show c < bn B from hc')], fun c hc' e5 => by rw [h4 c hc' e5, if_pos (show c < bn B from hc')]⟩
  | succ r ih =>
    intro b n t p g h1 h2 h3 h4 h5
    obtain ⟨n, rfl⟩ : ∃ z, n = z + 1 := ⟨n - 1, by omega⟩
    have hb : b < bn B := by omega
    obtain ⟨a1, a2, a3, a4, a5, a6, a7, a8⟩ := basOk_wh h hb
    obtain ⟨c1, c2, c3, c4, c5⟩ := hc b hb
    obtain ⟨i1, i2⟩ := hP.1.1 b hb
    obtain ⟨t1, t2, t3⟩ := tpl_xy (ov := true) i1 i2 w8 h8 a4 a6
    have p64 := ins_64 h hP.1.1 hb
    have hp := h3 b hb
    rw [if_neg (Nat.lt_irrefl b)] at hp
    have tP : tuP true B P b = tpl true (bw B) (bh B) (xW B b) (xH B b) (P b) := if_pos hb
    obtain ⟨rg, g1, g2⟩ : ∃ rg, f_Chart_mirrored (g b) (nI (xW B b)) (nI (bw B)) = some rg ∧ (bK B b = 5 → rg = nI (bG (tuB true B) b)) := by
      by_cases k5 : bK B b = 5
      · obtain ⟨q1, q2, q3, q4⟩ := hP.2.2 b hb k5
        have hg := h4 b hb k5
        rw [if_neg (Nat.lt_irrefl b)] at hg
        exact ⟨_, by rw [hg]; exact s_mirrored (h := bh B) (H := xH B b) (h.2.2.2.2.2.2 b hb k5) q3, fun _ => rfl⟩
      · exact ⟨_, rfl, fun z => absurd z k5⟩
    rw [f_Chart_mirror_L58, if_neg (nI_ge hb (by omega))]
    simp only [ev_grdN _ a1 (show 12 < 2 ^ 31 by decide), cl_nI a1, c3, hp]
    rw [ev_b _ (s_mirrored (h := bh B) (H := xH B b) p64 i1), ev_b _ g1, ev_b _ (s_fieldsOf (p := tpl true (bw B) (bh B) (xW B b) (xH B b) (P b)) a1 pk_us c5), ev_bnd, ev_bnd, nI_1]
    refine ih (b + 1) n _ _ _ (by omega) (by omega) (fun c hc' => ?_) (fun c hc' e5 => ?_) (fun f hf => ?_)
    · by_cases z : c = b
      · rw [z, pk_us, if_pos (Nat.lt_succ_self b), tP]
      · rw [pk_un z, h3 c hc']
        by_cases y : c < b
        · rw [if_pos y, if_pos (by omega)]
        · rw [if_neg y, if_neg (by omega)]
    · by_cases z : c = b
      · subst z; rw [pk_us, if_pos (Nat.lt_succ_self c), g2 e5]
      · rw [pk_un z, h4 c hc' e5]
        by_cases y : c < b
        · rw [if_pos y, if_pos (by omega)]
        · rw [if_neg y, if_neg (by omega)]
    · rw [tb_or, h5 f hf, any_s]
      congr 1
      rw [shp_at t3 a5 a7 (by rw [t1, if_pos rfl]; omega) hf]
      unfold fbA
      rw [(tu_x h hb).1, (tu_x h hb).2, tP]
      rfl
theorem s_mirror {B : Bas} {P : Nat → Nat} {cw chh cn : Int32} {cwl ct : Int64} {ck cp cl cg ca cwd chg : Nat → Int32} {cs : Nat → Int64} (h : basOk B) (hP : stC B P) (hc : chX B P cw chh cn cwl ct ck cp cl cg ca cwd chg cs) (ho : ∀ f, f < 64 → (bw B ≤ f % 8 ∨ bh B ≤ f / 8) → bwl B f = false) :
    ∃ cwl' ct' cp' cg', f_Chart_mirror cw cn cwl ct cp cg cwd cs = some (cwl', ct', cp', cg') ∧ chX (tuB true B) (tuP true B P) cw chh cn cwl' ct' ck cp' cl cg' ca cwd chg cs := by
  obtain ⟨c1, c2, c3, c4, c5, c6, c7, c8, c9⟩ := hc
  subst c1; subst c2; subst c3
  have n12 := h.2.2.2.2.1
  obtain ⟨V, v1, v2⟩ := s_mirW h c4 ho 64 0 jN 0 (by omega) (by show 64 < 2000000; omega) (fun f _ => by rw [tb_0, wlK_0])
  obtain ⟨t, p, g, e1, e2, e3, e4⟩ := s_mirL h hP c6 (bn B) 0 jN 0 cp cg (by omega) (by show bn B < 2000000; omega) (fun c hc => by rw [if_neg (Nat.not_lt_zero c)]; exact c7 c hc) (fun c hc e => by rw [if_neg (Nat.not_lt_zero c)]; exact c9 c hc e) (fun f _ => by rw [tb_0]; rfl)
  refine ⟨V, t, p, g, ?_, rfl, rfl, rfl, v2, e2, ?_, e3, c8, e4⟩
  · unfold f_Chart_mirror
    rw [ev_b (x := f_Chart_mirror_L12 cwl (nI (bw B)) jN 0 0) _ v1, ev_b (x := f_Chart_mirror_L58 (nI (bw B)) (nI (bn B)) cwd cs jN 0 0 cp cg) _ e1, un3_ap]
  · intro b hb
    have hb' : b < bn B := hb
    obtain ⟨x1, x2⟩ := tu_x (ov := true) h hb'
    rw [x1, x2]
    exact c6 b hb'
/-- barges below b as in the turned basin, the others as in B -/
def chQ (B : Bas) (b : Nat) (kk ka kw kh : Nat → Int32) (ks : Nat → Int64) : Prop := (∀ c, c < bn B → kk c = nI (bK B c)) ∧ (∀ c, c < b → ka c = bI (decide (bY (tuB false B) c = 1)) ∧ kw c = nI (xW (tuB false B) c) ∧ kh c = nI (xH (tuB false B) c) ∧ ks c = shp (xW (tuB false B) c) (xH (tuB false B) c)) ∧ (∀ c, b ≤ c → c < bn B → ka c = bI (decide (bY B c = 1)) ∧ kw c = nI (xW B c) ∧ kh c = nI (xH B c) ∧ ks c = shp (xW B c) (xH B c))
theorem s_quaL {B : Bas} {P : Nat → Nat} {kk kl : Nat → Int32} (h : basOk B) (hP : stC B P) (hl : ∀ c, c < bn B → kl c = nI (bS B c)) : ∀ (r b n : Nat) (t : Int64) (p g a w hg : Nat → Int32) (s : Nat → Int64), b + r = bn B → r < n → chQ B b kk a w hg s → (∀ c, c < bn B → p c = nI (if c < b then tuP false B P c else P c)) → (∀ c, c < bn B → bK B c = 5 → g c = nI (if c < b then bG (tuB false B) c else bG B c)) → (∀ f, f < 64 → tb t f = (List.range b).any fun c => fbA (tuB false B) (tuP false B P) c f) →
    ∃ t' p' g' a' w' hg' s', f_Chart_quarter_L58 (nI (bh B)) (nI (bn B)) kk kl n (nI b) t p g a w hg s = some (t', p', g', a', w', hg', s') ∧ chT (tuB false B) (tuP false B P) t' ∧ chP (tuB false B) (tuP false B P) p' ∧ chG (tuB false B) g' ∧ chB (tuB false B) kk a' w' hg' s' := by
  have n12 := h.2.2.2.2.1
  have w8 := h.2.1
  have h8 := h.2.2.2.1
  have hB := tu_bas (ov := false) h hP
  intro r
  induction r with
  | zero =>
    intro b n t p g a w hg s h1 h2 hq h3 h4 h5
    obtain ⟨n, rfl⟩ : ∃ z, n = z + 1 := ⟨n - 1, by omega⟩
    have e : b = bn B := by omega
    subst e
    exact ⟨t, p, g, a, w, hg, s, by rw [f_Chart_quarter_L58, if_pos (nI_le (Nat.le_refl _) (by omega))], h5, fun c hc' => by rw [h3 c hc', if_pos (show c < bn B from hc')], fun c hc' e5 => by rw [h4 c hc' e5, if_pos (show c < bn B from hc')], fun c hc' => ⟨hq.1 c hc', hq.2.1 c hc'⟩⟩
  | succ r ih =>
    intro b n t p g a w hg s h1 h2 hq h3 h4 h5
    obtain ⟨n, rfl⟩ : ∃ z, n = z + 1 := ⟨n - 1, by omega⟩
    have hb : b < bn B := by omega
    obtain ⟨a1, a2, a3, a4, a5, a6, a7, a8⟩ := basOk_wh h hb
    obtain ⟨q1, q2, q3⟩ := hq
    obtain ⟨c2, c3, c4, c5⟩ := q3 b (Nat.le_refl _) hb
    obtain ⟨i1, i2⟩ := hP.1.1 b hb
    obtain ⟨t1, t2, t3⟩ := tpl_xy (ov := false) i1 i2 w8 h8 a4 a6
    obtain ⟨x1, x2⟩ := tu_x (ov := false) h hb
    have bg : bgOk (bK B b) (bS B b) (bY (tuB false B) b) := hB.2.2.2.2.2.1 b hb
    have p64 := ins_64 h hP.1.1 hb
    have hp := h3 b hb
    rw [if_neg (Nat.lt_irrefl b)] at hp
    have tP : tuP false B P b = tpl false (bw B) (bh B) (xW B b) (xH B b) (P b) := if_pos hb
    obtain ⟨rg, g1, g2⟩ : ∃ rg, f_Chart_turned (g b) (nI (xH B b)) (nI (bh B)) = some rg ∧ (bK B b = 5 → rg = nI (bG (tuB false B) b)) := by
      by_cases k5 : bK B b = 5
      · obtain ⟨q1, q2, q3, q4⟩ := hP.2.2 b hb k5
        have hg := h4 b hb k5
        rw [if_neg (Nat.lt_irrefl b)] at hg
        exact ⟨_, by rw [hg]; exact s_turned (w := bw B) (W := xW B b) (h.2.2.2.2.2.2 b hb k5) q4, fun _ => rfl⟩
      · exact ⟨_, rfl, fun z => absurd z k5⟩
    have J : f_Chart_quarter_J141 (f_Chart_quarter_L58 (nI (bh B)) (nI (bn B)) kk kl n) (nI b) (nI b) (bI (decide (bY (tuB false B) b = 1))) t kk (upd p b (nI (tpl false (bw B) (bh B) (xW B b) (xH B b) (P b)))) kl (upd g b rg) a w hg s = f_Chart_quarter_L58 (nI (bh B)) (nI (bn B)) kk kl n (nI (b + 1)) (t ||| jlshl (shp (xW (tuB false B) b) (xH (tuB false B) b)) (nI (tpl false (bw B) (bh B) (xW B b) (xH B b) (P b)))) (upd p b (nI (tpl false (bw B) (bh B) (xW B b) (xH B b) (P b)))) (upd g b rg) (upd a b (bI (decide (bY (tuB false B) b = 1)))) (upd w b (nI (xW (tuB false B) b))) (upd hg b (nI (xH (tuB false B) b))) (vp_updL s b (shp (xW (tuB false B) b) (xH (tuB false B) b))) := by
      unfold f_Chart_quarter_J141
      rw [ev_grdN _ a1 (by decide), cl_nI a1, nar_bI, ev_b _ (s_form a1 bg (q1 b hb) (hl b hb) pk_us), un3_ap, ev_b _ (s_fieldsOf (p := tpl false (bw B) (bh B) (xW B b) (xH B b) (P b)) a1 pk_us pk_uLs), ev_bnd, ev_bnd, nI_1]
      rfl
    have yT : bY (tuB false B) b = (if bK B b = 1 ∨ bK B b = 5 then 1 - bY B b else bY B b) := rfl
    have sel : (if bI (decide (bK B b = 1 ∨ bK B b = 5)) = 0 then f_Chart_quarter_J140 (f_Chart_quarter_L58 (nI (bh B)) (nI (bn B)) kk kl n) (nI b) (nI b) t kk (upd p b (nI (tpl false (bw B) (bh B) (xW B b) (xH B b) (P b)))) kl (upd g b rg) a w hg s else (if bI (decide (bY B b = 1)) = 0 then f_Chart_quarter_J141 (f_Chart_quarter_L58 (nI (bh B)) (nI (bn B)) kk kl n) (nI b) (nI b) 1 t kk (upd p b (nI (tpl false (bw B) (bh B) (xW B b) (xH B b) (P b)))) kl (upd g b rg) a w hg s else f_Chart_quarter_J140 (f_Chart_quarter_L58 (nI (bh B)) (nI (bn B)) kk kl n) (nI b) (nI b) t kk (upd p b (nI (tpl false (bw B) (bh B) (xW B b) (xH B b) (P b)))) kl (upd g b rg) a w hg s)) = f_Chart_quarter_J141 (f_Chart_quarter_L58 (nI (bh B)) (nI (bn B)) kk kl n) (nI b) (nI b) (bI (decide (bY (tuB false B) b = 1))) t kk (upd p b (nI (tpl false (bw B) (bh B) (xW B b) (xH B b) (P b)))) kl (upd g b rg) a w hg s := by
      rw [yT]
      obtain ⟨l1, l2, l3⟩ := h.2.2.2.2.2.1 b hb
      by_cases k : bK B b = 1 ∨ bK B b = 5
      · rw [if_pos k, decide_eq_true k, if_neg (show ¬ bI true = 0 by decide)]
        by_cases y1 : bY B b = 1
        · rw [y1, if_neg (show ¬ bI (decide (1 = 1)) = 0 by decide)]; rfl
        · rw [show bY B b = 0 by omega, if_pos (show bI (decide (0 = 1)) = 0 by decide)]; rfl
      · rw [if_neg k, decide_eq_false k, if_pos (show bI false = 0 by decide), decide_eq_false (show ¬ bY B b = 1 from fun z => k (l3 z))]; rfl
    rw [f_Chart_quarter_L58, if_neg (nI_ge hb (by omega))]
    simp only [ev_grdN _ a1 (show 12 < 2 ^ 31 by decide), cl_nI a1, c4, hp, q1 b hb, c2]
    rw [ev_b _ (s_turned (w := bw B) (W := xW B b) p64 i2), ev_b _ g1, ev_b _ (s_isBound a2), sel, J]
    refine ih (b + 1) n _ _ _ _ _ _ _ (by omega) (by omega) ⟨q1, fun c hc' => ?_, fun c hc1 hc2 => ?_⟩ (fun c hc' => ?_) (fun c hc' e5 => ?_) (fun f hf => ?_)
    · by_cases z : c = b
      · subst z; rw [pk_us, pk_us, pk_us, pk_uLs]; exact ⟨rfl, rfl, rfl, rfl⟩
      · rw [pk_un z, pk_un z, pk_un z, pk_uLn z]; exact q2 c (by omega)
    · have z : c ≠ b := by omega
      rw [pk_un z, pk_un z, pk_un z, pk_uLn z]; exact q3 c (by omega) hc2
    · by_cases z : c = b
      · rw [z, pk_us, if_pos (Nat.lt_succ_self b), tP]
      · rw [pk_un z, h3 c hc']
        by_cases y : c < b
        · rw [if_pos y, if_pos (by omega)]
        · rw [if_neg y, if_neg (by omega)]
    · by_cases z : c = b
      · subst z; rw [pk_us, if_pos (Nat.lt_succ_self c), g2 e5]
      · rw [pk_un z, h4 c hc' e5]
        by_cases y : c < b
        · rw [if_pos y, if_pos (by omega)]
        · rw [if_neg y, if_neg (by omega)]
    · rw [tb_or, h5 f hf, any_s]
      congr 1
      have xx1 : xW (tuB false B) b = xH B b := x1
      have xx2 : xH (tuB false B) b = xW B b := x2
      unfold fbA
      rw [xx1, xx2, shp_at t3 a7 a5 (by rw [t1, if_neg (by decide)]; omega) hf, tP]
theorem s_quarter {B : Bas} {P : Nat → Nat} {cw chh cn : Int32} {cwl ct : Int64} {ck cp cl cg ca cwd chg : Nat → Int32} {cs : Nat → Int64} (h : basOk B) (hP : stC B P) (hc : chX B P cw chh cn cwl ct ck cp cl cg ca cwd chg cs) (ho : ∀ f, f < 64 → (bw B ≤ f % 8 ∨ bh B ≤ f / 8) → bwl B f = false) :
    ∃ cwl' ct' cp' cg' ca' cwd' chg' cs', f_Chart_quarter cw chh cn cwl ct ck cp cl cg ca cwd chg cs = some (chh, cw, cwl', ct', cp', cg', ca', cwd', chg', cs') ∧ chX (tuB false B) (tuP false B P) chh cw cn cwl' ct' ck cp' cl cg' ca' cwd' chg' cs' := by
  obtain ⟨c1, c2, c3, c4, c5, c6, c7, c8, c9⟩ := hc
  subst c1; subst c2; subst c3
  have n12 := h.2.2.2.2.1
  obtain ⟨V, v1, v2⟩ := s_quaW h c4 ho 64 0 jN 0 (by omega) (by show 64 < 2000000; omega) (fun f _ => by rw [tb_0, wlK_0])
  obtain ⟨t, p, g, a, w, hg, s, e1, e2, e3, e4, e5⟩ := s_quaL h hP c8 (bn B) 0 jN 0 cp cg ca cwd chg cs (by omega) (by show bn B < 2000000; omega) ⟨fun c hc => (c6 c hc).1, fun c hc => absurd hc (Nat.not_lt_zero c), fun c _ hc => (c6 c hc).2⟩ (fun c hc => by rw [if_neg (Nat.not_lt_zero c)]; exact c7 c hc) (fun c hc e => by rw [if_neg (Nat.not_lt_zero c)]; exact c9 c hc e) (fun f _ => by rw [tb_0]; rfl)
  refine ⟨V, t, p, g, a, w, hg, s, ?_, rfl, rfl, rfl, v2, e2, e5, e3, c8, e4⟩
  unfold f_Chart_quarter
  rw [ev_b (x := f_Chart_quarter_L12 cwl (nI (bh B)) jN 0 0) _ v1, ev_b (x := f_Chart_quarter_L58 (nI (bh B)) (nI (bn B)) ck cl jN 0 0 cp cg ca cwd chg cs) _ e1, un7_ap]
