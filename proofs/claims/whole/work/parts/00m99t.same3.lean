/-! same of the reference. -/
theorem ma_clr {ov : Bool} : ∀ (r k n : Nat) (nw : Nat → Int32), k + r = 64 → r < n → (∀ f, f < k → nw f = 0) → ∃ N, f_BargeBasinModel_asTurned_L2 (bI ov) n (nI k) nw = some N ∧ ∀ f, f < 64 → N f = 0 := by
  intro r
  induction r with
  | zero =>
    intro k n nw h1 h2 h3
    obtain ⟨n, rfl⟩ : ∃ z, n = z + 1 := ⟨n - 1, by omega⟩
    have e : k = 64 := by omega
    subst e
    exact ⟨nw, by rw [f_BargeBasinModel_asTurned_L2, if_pos (show (64 : Int32) ≤ nI 64 by decide)], h3⟩
  | succ r ih =>
    intro k n nw h1 h2 h3
    obtain ⟨n, rfl⟩ : ∃ z, n = z + 1 := ⟨n - 1, by omega⟩
    rw [f_BargeBasinModel_asTurned_L2, if_neg (show ¬ (64 : Int32) ≤ nI k from nI_ge (b := 64) (by omega) (by decide)), ev_grdN _ (show k < 64 by omega) (by decide), ev_bnd, nI_1, nI_clamp (show k < 2 ^ 31 by omega), show vp_nar .boolean (0 : Int32) = 0 from nar_bI false]
    exact ih (k + 1) n _ (by omega) (by omega) (fun f hf => by
      by_cases z : f = k
      · rw [z, pk_us]
      · rw [pk_un z]; exact h3 f (by omega))
theorem ma_turX {ov : Bool} {B : Bas} {y : Nat} {kwl : Nat → Int32} (h : basOk B) (hw : rfW B kwl) (hy : y < bh B) : ∀ (r x n : Nat) (nw : Nat → Int32), x + r = bw B → r < n → (∀ f, f < 64 → nw f = bI (wlK ov B (x + 8 * y) f)) → ∃ N, f_BargeBasinModel_asTurned_L33 (bI ov) (nI y) (nI (bw B)) (nI (bh B)) kwl n (nI x) nw = some N ∧ ∀ f, f < 64 → N f = bI (wlK ov B (bw B + 8 * y) f) := by
  have w8 := h.2.1
  have h8 := h.2.2.2.1
  intro r
  induction r with
  | zero =>
    intro x n nw h1 h2 h3
    obtain ⟨n, rfl⟩ : ∃ z, n = z + 1 := ⟨n - 1, by omega⟩
    have e : x = bw B := by omega
    subst e
    exact ⟨nw, by rw [f_BargeBasinModel_asTurned_L33, if_pos (nI_le (Nat.le_refl _) (by omega))], h3⟩
  | succ r ih =>
    intro x n nw h1 h2 h3
    obtain ⟨n, rfl⟩ : ∃ z, n = z + 1 := ⟨n - 1, by omega⟩
    have e' : nI x + (8 : Int32) * nI y = nI (x + 8 * y) := by rw [i8, nI_add]
    have sx : x + 1 + 8 * y = x + 8 * y + 1 := by omega
    rw [f_BargeBasinModel_asTurned_L33, if_neg (nI_ge (show x < bw B by omega) (by omega)), e']
    simp only [ev_grdN _ (show x + 8 * y < 64 by omega) (show 64 < 2 ^ 31 by decide), nI_clamp (show x + 8 * y < 2 ^ 31 by omega), ev_bnd, nI_1, hw _ (show x + 8 * y < 64 by omega)]
    cases e : bwl B (x + 8 * y) with
    | false =>
      rw [if_pos (show bI false = 0 by decide)]
      exact ih (x + 1) n nw (by omega) (by omega) (fun f hf => by rw [h3 f hf, sx, wlK_n e])
    | true =>
      have hi : (x + 8 * y) % 8 < bw B ∧ (x + 8 * y) / 8 < bh B := by omega
      have t := (tpl_xy (ov := ov) (W := 1) (H := 1) (show (x + 8 * y) % 8 + 1 ≤ bw B by omega) (show (x + 8 * y) / 8 + 1 ≤ bh B by omega) w8 h8 (by decide) (by decide)).2.2
      rw [if_neg (show ¬ bI true = 0 by decide), ev_b (x := f_BargeBasinModel_turned (nI (x + 8 * y)) 1 1 (nI (bw B)) (nI (bh B)) (bI ov)) _ (m_turned (W := 1) (H := 1) (show x + 8 * y < 64 by omega) (by omega) (by omega)), ev_grdN _ t (by decide), nI_clamp (show _ < 2 ^ 31 by omega), nar1]
      exact ih (x + 1) n _ (by omega) (by omega) (fun f hf => by
        rw [sx, wlK_s h e hi hf]
        by_cases z : f = tpl ov (bw B) (bh B) 1 1 (x + 8 * y)
        · rw [z, pk_us, decide_eq_true rfl, Bool.or_true]; rfl
        · rw [pk_un z, h3 f hf, decide_eq_false z, Bool.or_false])
theorem ma_turY {ov : Bool} {B : Bas} {kwl : Nat → Int32} (h : basOk B) (hw : rfW B kwl) (ho : ∀ f, f < 64 → (bw B ≤ f % 8 ∨ bh B ≤ f / 8) → bwl B f = false) : ∀ (r y n : Nat) (nw : Nat → Int32), y + r = bh B → r < n → (∀ f, f < 64 → nw f = bI (wlK ov B (8 * y) f)) → ∃ N, f_BargeBasinModel_asTurned_L23 (bI ov) (nI (bw B)) (nI (bh B)) kwl n (nI y) nw = some N ∧ ∀ f, f < 64 → N f = bI (bwl (tuB ov B) f) := by
  have w8 := h.2.1
  have h8 := h.2.2.2.1
  intro r
  induction r with
  | zero =>
    intro y n nw h1 h2 h3
    obtain ⟨n, rfl⟩ : ∃ z, n = z + 1 := ⟨n - 1, by omega⟩
    have e : y = bh B := by omega
    subst e
    refine ⟨nw, by rw [f_BargeBasinModel_asTurned_L23, if_pos (nI_le (Nat.le_refl _) (by omega))], fun f hf => ?_⟩
    rw [h3 f hf, ← wlK_64 h hf, ← wlK_skip (64 - 8 * bh B) (8 * bh B) (fun j h4 h5 => ho j (by omega) (by omega)), show 8 * bh B + (64 - 8 * bh B) = 64 by omega]
  | succ r ih =>
    intro y n nw h1 h2 h3
    obtain ⟨n, rfl⟩ : ∃ z, n = z + 1 := ⟨n - 1, by omega⟩
    obtain ⟨N, n1, n2⟩ := ma_turX h hw (show y < bh B by omega) (bw B) 0 jN nw (by omega) (by show bw B < 2000000; omega) (fun f hf => by rw [h3 f hf, Nat.zero_add])
    rw [f_BargeBasinModel_asTurned_L23, if_neg (nI_ge (show y < bh B by omega) (by omega)), ev_b (x := f_BargeBasinModel_asTurned_L33 (bI ov) (nI y) (nI (bw B)) (nI (bh B)) kwl jN 0 nw) _ n1, ev_bnd, nI_1]
    refine ih (y + 1) n N (by omega) (by omega) (fun f hf => ?_)
    rw [n2 f hf, ← wlK_skip (8 - bw B) (bw B + 8 * y) (fun j h4 h5 => ho j (by omega) (by omega)), show bw B + 8 * y + (8 - bw B) = 8 * (y + 1) by omega]
theorem ma_cpW {ov : Bool} {nw : Nat → Int32} {p : Nat → Bool} (hn : ∀ f, f < 64 → nw f = bI (p f)) : ∀ (r k n : Nat) (wl : Nat → Int32), k + r = 64 → r < n → (∀ f, f < k → wl f = bI (p f)) → ∃ N, f_BargeBasinModel_asTurned_L95 (bI ov) nw n (nI k) wl = some N ∧ ∀ f, f < 64 → N f = bI (p f) := by
  intro r
  induction r with
  | zero =>
    intro k n wl h1 h2 h3
    obtain ⟨n, rfl⟩ : ∃ z, n = z + 1 := ⟨n - 1, by omega⟩
    have e : k = 64 := by omega
    subst e
    exact ⟨wl, by rw [f_BargeBasinModel_asTurned_L95, if_pos (show (64 : Int32) ≤ nI 64 by decide)], h3⟩
  | succ r ih =>
    intro k n wl h1 h2 h3
    obtain ⟨n, rfl⟩ : ∃ z, n = z + 1 := ⟨n - 1, by omega⟩
    rw [f_BargeBasinModel_asTurned_L95, if_neg (show ¬ (64 : Int32) ≤ nI k from nI_ge (b := 64) (by omega) (by decide)), ev_grdN _ (show k < 64 by omega) (by decide), ev_bnd, ev_grdN _ (show k < 64 by omega) (by decide), ev_bnd, nI_1, nI_clamp (show k < 2 ^ 31 by omega), hn k (by omega), nar_bI]
    exact ih (k + 1) n _ (by omega) (by omega) (fun f hf => by
      by_cases z : f = k
      · rw [z, pk_us]
      · rw [pk_un z]; exact h3 f (by omega))
/-- the reference's picture of X -/
def asR (X : BP) (aw ah : Int32) (aat ag ay awd ata awl : Nat → Int32) : Prop := aw = nI (bw X.1) ∧ ah = nI (bh X.1) ∧ rfW X.1 awl ∧ chP X.1 X.2 aat ∧ chG X.1 ag ∧ ∀ b, b < bn X.1 → ay b = nI (bY X.1 b) ∧ awd b = nI (xW X.1 b) ∧ ata b = nI (xH X.1 b)
theorem m_asL {ov : Bool} {X : BP} {kk : Nat → Int32} (hX : okX X) (hk : ∀ b, b < bn X.1 → kk b = nI (bK X.1 b)) : ∀ (r b n : Nat) (p g y w t : Nat → Int32), b + r = bn X.1 → r < n → (∀ c, c < bn X.1 → p c = nI (if c < b then (tuX ov X).2 c else X.2 c)) → (∀ c, c < bn X.1 → bK X.1 c = 5 → g c = nI (if c < b then bG (tuX ov X).1 c else bG X.1 c)) → (∀ c, c < bn X.1 → y c = nI (if c < b then bY (tuX ov X).1 c else bY X.1 c) ∧ w c = nI (if c < b then xW (tuX ov X).1 c else xW X.1 c) ∧ t c = nI (if c < b then xH (tuX ov X).1 c else xH X.1 c)) →
    ∃ p' g' y' w' t', f_BargeBasinModel_asTurned_L121 (bI ov) (nI (bn X.1)) (nI (bw X.1)) (nI (bh X.1)) kk n (nI b) p g y w t = some (p', g', y', w', t') ∧ chP (tuX ov X).1 (tuX ov X).2 p' ∧ chG (tuX ov X).1 g' ∧ ∀ c, c < bn X.1 → y' c = nI (bY (tuX ov X).1 c) ∧ w' c = nI (xW (tuX ov X).1 c) ∧ t' c = nI (xH (tuX ov X).1 c) := by
  obtain ⟨h, hP, ho⟩ := hX
  have n12 := h.2.2.2.2.1
  have w8 := h.2.1
  have h8 := h.2.2.2.1
  intro r
  induction r with
  | zero =>
    intro b n p g y w t h1 h2 h3 h4 h5
    obtain ⟨n, rfl⟩ : ∃ z, n = z + 1 := ⟨n - 1, by omega⟩
    have e : b = bn X.1 := by omega
    subst e
    refine ⟨p, g, y, w, t, by rw [f_BargeBasinModel_asTurned_L121, if_pos (nI_le (Nat.le_refl _) (by omega))], fun c hc' => by rw [h3 c hc', if_pos (show c < bn X.1 from hc')], fun c hc' e5 => by rw [h4 c hc' e5, if_pos (show c < bn X.1 from hc')], fun c hc' => ?_⟩
    have := h5 c hc'
    rw [if_pos hc', if_pos hc', if_pos hc'] at this
    exact this
  | succ r ih =>
    intro b n p g y w t h1 h2 h3 h4 h5
    obtain ⟨n, rfl⟩ : ∃ z, n = z + 1 := ⟨n - 1, by omega⟩
    have hb : b < bn X.1 := by omega
    obtain ⟨a1, a2, a3, a4, a5, a6, a7, a8⟩ := basOk_wh h hb
    obtain ⟨i1, i2⟩ := hP.1.1 b hb
    have p64 := ins_64 h hP.1.1 hb
    have hp := h3 b hb
    rw [if_neg (Nat.lt_irrefl b)] at hp
    obtain ⟨q1, q2, q3⟩ := h5 b hb
    rw [if_neg (Nat.lt_irrefl b)] at q1 q2 q3
    have tP : (tuX ov X).2 b = tpl ov (bw X.1) (bh X.1) (xW X.1 b) (xH X.1 b) (X.2 b) := if_pos hb
    obtain ⟨x1, x2⟩ := tu_x (ov := ov) h hb
    obtain ⟨rg, g1, g2⟩ : ∃ rg, f_BargeBasinModel_turned (g b) (nI (xW X.1 b)) (nI (xH X.1 b)) (nI (bw X.1)) (nI (bh X.1)) (bI ov) = some rg ∧ (bK X.1 b = 5 → rg = nI (bG (tuX ov X).1 b)) := by
      by_cases k5 : bK X.1 b = 5
      · obtain ⟨-, -, z3, z4⟩ := hP.2.2 b hb k5
        have hg := h4 b hb k5
        rw [if_neg (Nat.lt_irrefl b)] at hg
        exact ⟨_, by rw [hg]; exact m_turned (h.2.2.2.2.2.2 b hb k5) z3 z4, fun _ => rfl⟩
      · unfold f_BargeBasinModel_turned
        rw [ev_div _ (by decide), ev_bnd, ev_div _ (by decide), ev_bnd]
        by_cases z : bI ov = 0
        · rw [if_pos z]; exact ⟨_, rfl, fun q => absurd q k5⟩
        · rw [if_neg z]; exact ⟨_, rfl, fun q => absurd q k5⟩
    have pc : ∀ c, c < bn X.1 → upd p b (nI (tpl ov (bw X.1) (bh X.1) (xW X.1 b) (xH X.1 b) (X.2 b))) c = nI (if c < b + 1 then (tuX ov X).2 c else X.2 c) := by
      intro c hc'
      by_cases z : c = b
      · rw [z, pk_us, if_pos (Nat.lt_succ_self b), tP]
      · rw [pk_un z, h3 c hc']
        by_cases y : c < b
        · rw [if_pos y, if_pos (by omega)]
        · rw [if_neg y, if_neg (by omega)]
    have gc : ∀ c, c < bn X.1 → bK X.1 c = 5 → upd g b rg c = nI (if c < b + 1 then bG (tuX ov X).1 c else bG X.1 c) := by
      intro c hc' e5
      by_cases z : c = b
      · subst z; rw [pk_us, if_pos (Nat.lt_succ_self c), g2 e5]
      · rw [pk_un z, h4 c hc' e5]
        by_cases y : c < b
        · rw [if_pos y, if_pos (by omega)]
        · rw [if_neg y, if_neg (by omega)]
    have gen : ∀ (u : Nat → Int32) (v : Int32) (o m : Nat → Nat), (∀ c, c < bn X.1 → u c = nI (if c < b then m c else o c)) → v = nI (m b) → ∀ c, c < bn X.1 → upd u b v c = nI (if c < b + 1 then m c else o c) := by
      intro u v o m hu hv c hc'
      by_cases z : c = b
      · subst z; rw [pk_us, if_pos (Nat.lt_succ_self c), hv]
      · rw [pk_un z, hu c hc']
        by_cases y : c < b
        · rw [if_pos y, if_pos (by omega)]
        · rw [if_neg y, if_neg (by omega)]
    have gen0 : ∀ (u : Nat → Int32) (o m : Nat → Nat), (∀ c, c < bn X.1 → u c = nI (if c < b then m c else o c)) → m b = o b → ∀ c, c < bn X.1 → u c = nI (if c < b + 1 then m c else o c) := by
      intro u o m hu hv c hc'
      rw [hu c hc']
      by_cases z : c = b
      · subst z; rw [if_neg (Nat.lt_irrefl c), if_pos (Nat.lt_succ_self c), hv]
      · by_cases y : c < b
        · rw [if_pos y, if_pos (by omega)]
        · rw [if_neg y, if_neg (by omega)]
    rw [f_BargeBasinModel_asTurned_L121, if_neg (nI_ge hb (by omega))]
    simp only [ev_grdN _ a1 (show 12 < 2 ^ 31 by decide), cl_nI a1, hp, q1, q2, q3]
    rw [ev_b _ (m_turned p64 i1 i2), ev_b _ g1]
    simp only [ev_bnd, nI_1]
    cases ov with
    | true =>
      rw [if_neg (show ¬ bI true = 0 by decide)]
      exact ih (b + 1) n _ _ _ _ _ (by omega) (by omega) pc gc (fun c hc' => ⟨gen0 y _ _ (fun c hc => (h5 c hc).1) rfl c hc', gen0 w _ _ (fun c hc => (h5 c hc).2.1) x1 c hc', gen0 t _ _ (fun c hc => (h5 c hc).2.2) x2 c hc'⟩)
    | false =>
      rw [if_pos (show bI false = 0 by decide), ev_b _ (m_isLong a1 (hk b hb) a2)]
      have yT : bY (tuX false X).1 b = (if bK X.1 b = 1 ∨ bK X.1 b = 5 then 1 - bY X.1 b else bY X.1 b) := rfl
      have wc := gen w (nI (xH X.1 b)) (xW X.1) (xW (tuX false X).1) (fun c hc => (h5 c hc).2.1) (by show nI (xH X.1 b) = nI (xW (tuB false X.1) b); rw [x1]; rfl)
      have tc := gen t (nI (xW X.1 b)) (xH X.1) (xH (tuX false X).1) (fun c hc => (h5 c hc).2.2) (by show nI (xW X.1 b) = nI (xH (tuB false X.1) b); rw [x2]; rfl)
      by_cases k : bK X.1 b = 1 ∨ bK X.1 b = 5
      · rw [decide_eq_true k, if_neg (show ¬ bI true = 0 by decide), one_sub _ a3]
        exact ih (b + 1) n _ _ _ _ _ (by omega) (by omega) pc gc (fun c hc' => ⟨gen y _ (bY X.1) (bY (tuX false X).1) (fun c hc => (h5 c hc).1) (by rw [yT, if_pos k]) c hc', wc c hc', tc c hc'⟩)
      · rw [decide_eq_false k, if_pos (show bI false = 0 by decide)]
        exact ih (b + 1) n _ _ _ _ _ (by omega) (by omega) pc gc (fun c hc' => ⟨gen0 y (bY X.1) (bY (tuX false X).1) (fun c hc => (h5 c hc).1) (by rw [yT, if_neg k]) c hc', wc c hc', tc c hc'⟩)
theorem m_asTurned {ov : Bool} {X : BP} {kk : Nat → Int32} {aw ah : Int32} {aat ag ay awd ata awl : Nat → Int32} (hX : okX X) (hk : ∀ b, b < bn X.1 → kk b = nI (bK X.1 b)) (ha : asR X aw ah aat ag ay awd ata awl) (nw : Nat → Int32) :
    ∃ aw' ah' nw' aat' ag' ay' awd' ata' awl', f_BargeBasinModel_asTurned (bI ov) (nI (bn X.1)) aw ah kk nw aat ag ay awd ata awl = some (aw', ah', nw', aat', ag', ay', awd', ata', awl') ∧ asR (tuX ov X) aw' ah' aat' ag' ay' awd' ata' awl' := by
  obtain ⟨r1, r2, r3, r4, r5, r6⟩ := ha
  subst r1; subst r2
  have n12 := hX.1.2.2.2.2.1
  have h8 := hX.1.2.2.2.1
  obtain ⟨N0, n1, n2⟩ := ma_clr (ov := ov) 64 0 jN nw (by omega) (by show 64 < 2000000; omega) (fun f hf => by omega)
  obtain ⟨N1, n3, n4⟩ := ma_turY (ov := ov) hX.1 r3 hX.2.2 (bh X.1) 0 jN N0 (by omega) (by show bh X.1 < 2000000; omega) (fun f hf => by rw [n2 f hf, wlK_0]; rfl)
  obtain ⟨N2, n5, n6⟩ := ma_cpW (ov := ov) n4 64 0 jN awl (by omega) (by show 64 < 2000000; omega) (fun f hf => by omega)
  obtain ⟨p, g, y, w, t, e1, e2, e3, e4⟩ := m_asL (ov := ov) hX hk (bn X.1) 0 jN aat ag ay awd ata (by omega) (by show bn X.1 < 2000000; omega) (fun c hc => by rw [if_neg (Nat.not_lt_zero c)]; exact r4 c hc) (fun c hc e => by rw [if_neg (Nat.not_lt_zero c)]; exact r5 c hc e) (fun c hc => by rw [if_neg (Nat.not_lt_zero c), if_neg (Nat.not_lt_zero c), if_neg (Nat.not_lt_zero c)]; exact r6 c hc)
  unfold f_BargeBasinModel_asTurned
  rw [ev_b (x := f_BargeBasinModel_asTurned_L2 (bI ov) jN 0 nw) _ n1, ev_b (x := f_BargeBasinModel_asTurned_L23 (bI ov) (nI (bw X.1)) (nI (bh X.1)) awl jN 0 N0) _ n3, ev_b (x := f_BargeBasinModel_asTurned_L95 (bI ov) N1 jN 0 awl) _ n5, ev_b (x := f_BargeBasinModel_asTurned_L121 (bI ov) (nI (bn X.1)) (nI (bw X.1)) (nI (bh X.1)) kk jN 0 aat ag ay awd ata) _ e1, un5_ap]
  cases ov with
  | true => rw [if_neg (show ¬ bI true = 0 by decide)]; exact ⟨_, _, _, _, _, _, _, _, _, rfl, rfl, rfl, n6, e2, e3, e4⟩
  | false => rw [if_pos (show bI false = 0 by decide)]; exact ⟨_, _, _, _, _, _, _, _, _, rfl, rfl, rfl, n6, e2, e3, e4⟩
