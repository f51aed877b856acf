/-! turn of the reference. -/
theorem m_turned {ov : Bool} {w h W H p : Nat} (hp : p < 64) (hw : p % 8 + W ≤ w) (hh : p / 8 + H ≤ h) : f_BargeBasinModel_turned (nI p) (nI W) (nI H) (nI w) (nI h) (bI ov) = some (nI (tpl ov w h W H p)) := by
  unfold f_BargeBasinModel_turned
  rw [ev_div _ (by decide), ev_bnd, ev_div _ (by decide), ev_bnd, geo_r8 (show p < 2 ^ 31 by omega), geo_d8 (show p < 2 ^ 31 by omega)]
  unfold tpl
  cases ov with
  | true =>
    rw [if_neg (show ¬ bI true = 0 by decide), if_pos rfl, nI_subE (show p % 8 ≤ w by omega), nI_subE (show W ≤ w - p % 8 by omega), i8, nI_add, Nat.add_comm, Nat.mul_comm]
  | false =>
    rw [if_pos (show bI false = 0 by decide), if_neg (by decide), nI_subE (show p / 8 ≤ h by omega), nI_subE (show H ≤ h - p / 8 by omega), i8, nI_add, Nat.add_comm]
theorem one_sub : ∀ y, y < 2 → (1 : Int32) - nI y = nI (1 - y) := by decide
theorem m_turL {ov : Bool} {B : Bas} {P : Nat → Nat} {kk ks : Nat → Int32} (h : basOk B) (hP : stC B P) (hk : ∀ b, b < bn B → kk b = nI (bK B b)) (hs : ∀ b, b < bn B → ks b = nI (bS B b)) : ∀ (r b n : Nat) (p y g : Nat → Int32), b + r = bn B → r < n → (∀ c, c < bn B → p c = nI (if c < b then tuP ov B P c else P c)) → (∀ c, c < bn B → y c = nI (if c < b then bY (tuB ov B) c else bY B c)) → (∀ c, c < bn B → bK B c = 5 → g c = nI (if c < b then bG (tuB ov B) c else bG B c)) →
    ∃ p' y' g', f_BargeBasinModel_turn_L25 (bI ov) (nI (bw B)) (nI (bh B)) (nI (bn B)) kk ks n (nI b) p y g = some (p', y', g') ∧ chP (tuB ov B) (tuP ov B P) p' ∧ rfB (tuB ov B) kk ks y' ∧ chG (tuB ov B) g' := by
  have n12 := h.2.2.2.2.1
  have w8 := h.2.1
  have h8 := h.2.2.2.1
  intro r
  induction r with
  | zero =>
    intro b n p y g h1 h2 h3 hy h4
    obtain ⟨n, rfl⟩ : ∃ z, n = z + 1 := ⟨n - 1, by omega⟩
    have e : b = bn B := by omega
    subst e
    exact ⟨p, y, g, by rw [f_BargeBasinModel_turn_L25, if_pos (nI_le (Nat.le_refl _) (by omega))], fun c hc' => by rw [h3 c hc', if_pos (show c < bn B from hc')], fun c hc' => ⟨hk c hc', hs c hc', by rw [hy c hc', if_pos (show c < bn B from hc')]⟩, fun c hc' e5 => by rw [h4 c hc' e5, if_pos (show c < bn B from hc')]⟩
  | succ r ih =>
    intro b n p y g h1 h2 h3 hy h4
    obtain ⟨n, rfl⟩ : ∃ z, n = z + 1 := ⟨n - 1, by omega⟩
    have hb : b < bn B := by omega
    obtain ⟨a1, a2, a3, a4, a5, a6, a7, a8⟩ := basOk_wh h hb
    obtain ⟨i1, i2⟩ := hP.1.1 b hb
    have p64 := ins_64 h hP.1.1 hb
    have hp := h3 b hb
    rw [if_neg (Nat.lt_irrefl b)] at hp
    have hyb := hy b hb
    rw [if_neg (Nat.lt_irrefl b)] at hyb
    have tP : tuP ov B P b = tpl ov (bw B) (bh B) (xW B b) (xH B b) (P b) := if_pos hb
    have c5 : (nI (bK B b) = 5) = (bK B b = 5) := nI_eqL (j := 5) (by omega) (by decide)
    have yT : bY (tuB ov B) b = (if ov = true then bY B b else if bK B b = 1 ∨ bK B b = 5 then 1 - bY B b else bY B b) := rfl
    have J : ∀ rg, (bK B b = 5 → rg = nI (bG (tuB ov B) b)) → ∃ p' y' g', f_BargeBasinModel_turn_J118 (f_BargeBasinModel_turn_L25 (bI ov) (nI (bw B)) (nI (bh B)) (nI (bn B)) kk ks n) (bI ov) (nI b) (nI b) rg kk (upd p b (nI (tpl ov (bw B) (bh B) (xW B b) (xH B b) (P b)))) y g = some (p', y', g') ∧ chP (tuB ov B) (tuP ov B P) p' ∧ rfB (tuB ov B) kk ks y' ∧ chG (tuB ov B) g' := by
      intro rg hg
      have pc : ∀ c, c < bn B → upd p b (nI (tpl ov (bw B) (bh B) (xW B b) (xH B b) (P b))) c = nI (if c < b + 1 then tuP ov B P c else P c) := by
        intro c hc'
        by_cases z : c = b
        · rw [z, pk_us, if_pos (Nat.lt_succ_self b), tP]
        · rw [pk_un z, h3 c hc']
          by_cases y : c < b
          · rw [if_pos y, if_pos (by omega)]
          · rw [if_neg y, if_neg (by omega)]
      have gc : ∀ c, c < bn B → bK B c = 5 → upd g b rg c = nI (if c < b + 1 then bG (tuB ov B) c else bG B c) := by
        intro c hc' e5
        by_cases z : c = b
        · subst z; rw [pk_us, if_pos (Nat.lt_succ_self c), hg e5]
        · rw [pk_un z, h4 c hc' e5]
          by_cases y : c < b
          · rw [if_pos y, if_pos (by omega)]
          · rw [if_neg y, if_neg (by omega)]
      have yc0 : bY (tuB ov B) b = bY B b → ∀ c, c < bn B → y c = nI (if c < b + 1 then bY (tuB ov B) c else bY B c) := by
        intro e c hc'
        rw [hy c hc']
        by_cases z : c = b
        · subst z; rw [if_neg (Nat.lt_irrefl c), if_pos (Nat.lt_succ_self c), e]
        · by_cases y : c < b
          · rw [if_pos y, if_pos (by omega)]
          · rw [if_neg y, if_neg (by omega)]
      unfold f_BargeBasinModel_turn_J118
      rw [ev_grdN _ a1 (by decide), cl_nI a1]
      simp only [ev_bnd, nI_1]
      cases ov with
      | true =>
        rw [if_neg (show ¬ bI true = 0 by decide)]
        exact ih (b + 1) n _ _ _ (by omega) (by omega) pc (yc0 rfl) gc
      | false =>
        rw [if_pos (show bI false = 0 by decide), ev_b _ (m_isLong a1 (hk b hb) a2)]
        by_cases k : bK B b = 1 ∨ bK B b = 5
        · rw [decide_eq_true k, if_neg (show ¬ bI true = 0 by decide), ev_grdN _ a1 (by decide), ev_grdN _ a1 (by decide), hyb, one_sub _ a3]
          refine ih (b + 1) n _ _ _ (by omega) (by omega) pc (fun c hc' => ?_) gc
          by_cases z : c = b
          · subst z; rw [pk_us, if_pos (Nat.lt_succ_self c), yT, if_neg (by decide), if_pos k]
          · rw [pk_un z, hy c hc']
            by_cases y : c < b
            · rw [if_pos y, if_pos (by omega)]
            · rw [if_neg y, if_neg (by omega)]
        · rw [decide_eq_false k, if_pos (show bI false = 0 by decide)]
          exact ih (b + 1) n _ _ _ (by omega) (by omega) pc (yc0 (by rw [yT, if_neg (by decide), if_neg k])) gc
    rw [f_BargeBasinModel_turn_L25, if_neg (nI_ge hb (by omega)), ev_b _ (m_wide a1 (hk b hb) (hs b hb) hyb a2 a3), ev_b _ (m_tall a1 (hk b hb) (hs b hb) hyb a2 a3)]
    simp only [ev_grdN _ a1 (show 12 < 2 ^ 31 by decide), cl_nI a1, hp, hk b hb, c5, pk_us]
    rw [ev_b (x := f_BargeBasinModel_turned (nI (P b)) (nI (bW (bK B b) (bS B b) (bY B b))) (nI (bH (bK B b) (bS B b) (bY B b))) (nI (bw B)) (nI (bh B)) (bI ov)) _ (m_turned (W := xW B b) (H := xH B b) p64 i1 i2)]
    by_cases k5 : bK B b = 5
    · obtain ⟨q1, q2, q3, q4⟩ := hP.2.2 b hb k5
      have hg := h4 b hb k5
      rw [if_neg (Nat.lt_irrefl b)] at hg
      rw [if_pos k5, hg, ev_b (x := f_BargeBasinModel_turned (nI (bG B b)) (nI (bW (bK B b) (bS B b) (bY B b))) (nI (bH (bK B b) (bS B b) (bY B b))) (nI (bw B)) (nI (bh B)) (bI ov)) _ (m_turned (W := xW B b) (H := xH B b) (h.2.2.2.2.2.2 b hb k5) q3 q4)]
      exact J _ (fun _ => rfl)
    · rw [if_neg k5]
      exact J _ (fun z => absurd z k5)
theorem m_clr {ov : Bool} : ∀ (r k n : Nat) (nw : Nat → Int32), k + r = 64 → r < n → (∀ f, f < k → nw f = 0) → ∃ N, f_BargeBasinModel_turn_L153 (bI ov) n (nI k) nw = some N ∧ ∀ f, f < 64 → N f = 0 := by
  intro r
  induction r with
  | zero =>
    intro k n nw h1 h2 h3
    obtain ⟨n, rfl⟩ : ∃ z, n = z + 1 := ⟨n - 1, by omega⟩
    have e : k = 64 := by omega
    subst e
    exact ⟨nw, by rw [f_BargeBasinModel_turn_L153, if_pos (show (64 : Int32) ≤ nI 64 by decide)], h3⟩
  | succ r ih =>
    intro k n nw h1 h2 h3
    obtain ⟨n, rfl⟩ : ∃ z, n = z + 1 := ⟨n - 1, by omega⟩
    rw [f_BargeBasinModel_turn_L153, if_neg (show ¬ (64 : Int32) ≤ nI k from nI_ge (b := 64) (by omega) (by decide)), ev_grdN _ (show k < 64 by omega) (by decide), ev_bnd, nI_1, nI_clamp (show k < 2 ^ 31 by omega), show vp_nar .boolean (0 : Int32) = 0 from nar_bI false]
    exact ih (k + 1) n _ (by omega) (by omega) (fun f hf => by
      by_cases z : f = k
      · rw [z, pk_us]
      · rw [pk_un z]; exact h3 f (by omega))
theorem wlK_skip {ov : Bool} {B : Bas} {f : Nat} : ∀ (d k : Nat), (∀ j, k ≤ j → j < k + d → bwl B j = false) → wlK ov B (k + d) f = wlK ov B k f
  | 0, _, _ => rfl
  | d + 1, k, q => by rw [← Nat.add_assoc, wlK_n (q (k + d) (by omega) (by omega)), wlK_skip d k (fun j h1 h2 => q j h1 (by omega))]
theorem m_turX {ov : Bool} {B : Bas} {y : Nat} {kwl : Nat → Int32} (h : basOk B) (hw : rfW B kwl) (hy : y < bh B) : ∀ (r x n : Nat) (nw : Nat → Int32), x + r = bw B → r < n → (∀ f, f < 64 → nw f = bI (wlK ov B (x + 8 * y) f)) → ∃ N, f_BargeBasinModel_turn_L184 (bI ov) (nI y) (nI (bw B)) (nI (bh B)) kwl n (nI x) nw = some N ∧ ∀ f, f < 64 → N f = bI (wlK ov B (bw B + 8 * y) f) := by
  have w8 := h.2.1
  have h8 := h.2.2.2.1
  intro r
  induction r with
  | zero =>
    intro x n nw h1 h2 h3
    obtain ⟨n, rfl⟩ : ∃ z, n = z + 1 := ⟨n - 1, by omega⟩
    have e : x = bw B := by omega
    subst e
    exact ⟨nw, by rw [f_BargeBasinModel_turn_L184, if_pos (nI_le (Nat.le_refl _) (by omega))], h3⟩
  | succ r ih =>
    intro x n nw h1 h2 h3
    obtain ⟨n, rfl⟩ : ∃ z, n = z + 1 := ⟨n - 1, by omega⟩
    have e' : nI x + (8 : Int32) * nI y = nI (x + 8 * y) := by rw [i8, nI_add]
    have sx : x + 1 + 8 * y = x + 8 * y + 1 := by omega
    rw [f_BargeBasinModel_turn_L184, if_neg (nI_ge (show x < bw B by omega) (by omega)), e']
    simp only [ev_grdN _ (show x + 8 * y < 64 by omega) (show 64 < 2 ^ 31 by decide), nI_clamp (show x + 8 * y < 2 ^ 31 by omega), ev_bnd, nI_1, hw _ (show x + 8 * y < 64 by omega)]
    cases e : bwl B (x + 8 * y) with
    | false =>
      rw [if_pos (show bI false = 0 by decide)]
      exact ih (x + 1) n nw (by omega) (by omega) (fun f hf => by rw [h3 f hf, sx, wlK_n e])
    | true =>
      have hi : (x + 8 * y) % 8 < bw B ∧ (x + 8 * y) / 8 < bh B := by omega
      have t := (tpl_xy (ov := ov) (W := 1) (H := 1) (show (x + 8 * y) % 8 + 1 ≤ bw B by omega) (show (x + 8 * y) / 8 + 1 ≤ bh B by omega) w8 h8 (by decide) (by decide)).2.2
      rw [if_neg (show ¬ bI true = 0 by decide), ev_b (x := f_BargeBasinModel_turned (nI (x + 8 * y)) 1 1 (nI (bw B)) (nI (bh B)) (bI ov)) _ (m_turned (W := 1) (H := 1) (show x + 8 * y < 64 by omega) (by omega) (by omega)), ev_grdN _ t (by decide), nI_clamp (show _ < 2 ^ 31 by omega), nar1]
      exact ih (x + 1) n _ (by omega) (by omega) (fun f hf => by
        rw [sx, wlK_s h e hi hf]
        by_cases z : f = tpl ov (bw B) (bh B) 1 1 (x + 8 * y)
        · rw [z, pk_us, decide_eq_true rfl, Bool.or_true]; rfl
        · rw [pk_un z, h3 f hf, decide_eq_false z, Bool.or_false])
theorem m_turY {ov : Bool} {B : Bas} {kwl : Nat → Int32} (h : basOk B) (hw : rfW B kwl) (ho : ∀ f, f < 64 → (bw B ≤ f % 8 ∨ bh B ≤ f / 8) → bwl B f = false) : ∀ (r y n : Nat) (nw : Nat → Int32), y + r = bh B → r < n → (∀ f, f < 64 → nw f = bI (wlK ov B (8 * y) f)) → ∃ N, f_BargeBasinModel_turn_L174 (bI ov) (nI (bw B)) (nI (bh B)) kwl n (nI y) nw = some N ∧ ∀ f, f < 64 → N f = bI (bwl (tuB ov B) f) := by
  have w8 := h.2.1
  have h8 := h.2.2.2.1
  intro r
  induction r with
  | zero =>
    intro y n nw h1 h2 h3
    obtain ⟨n, rfl⟩ : ∃ z, n = z + 1 := ⟨n - 1, by omega⟩
    have e : y = bh B := by omega
    subst e
    refine ⟨nw, by rw [f_BargeBasinModel_turn_L174, if_pos (nI_le (Nat.le_refl _) (by omega))], fun f hf => ?_⟩
    rw [h3 f hf, ← wlK_64 h hf, ← wlK_skip (64 - 8 * bh B) (8 * bh B) (fun j h4 h5 => ho j (by omega) (by omega)), show 8 * bh B + (64 - 8 * bh B) = 64 by omega]
  | succ r ih =>
    intro y n nw h1 h2 h3
    obtain ⟨n, rfl⟩ : ∃ z, n = z + 1 := ⟨n - 1, by omega⟩
    obtain ⟨N, n1, n2⟩ := m_turX h hw (show y < bh B by omega) (bw B) 0 jN nw (by omega) (by show bw B < 2000000; omega) (fun f hf => by rw [h3 f hf, Nat.zero_add])
    rw [f_BargeBasinModel_turn_L174, if_neg (nI_ge (show y < bh B by omega) (by omega)), ev_b (x := f_BargeBasinModel_turn_L184 (bI ov) (nI y) (nI (bw B)) (nI (bh B)) kwl jN 0 nw) _ n1, ev_bnd, nI_1]
    refine ih (y + 1) n N (by omega) (by omega) (fun f hf => ?_)
    rw [n2 f hf, ← wlK_skip (8 - bw B) (bw B + 8 * y) (fun j h4 h5 => ho j (by omega) (by omega)), show bw B + 8 * y + (8 - bw B) = 8 * (y + 1) by omega]
theorem m_cpW {ov : Bool} {nw : Nat → Int32} {p : Nat → Bool} (hn : ∀ f, f < 64 → nw f = bI (p f)) : ∀ (r k n : Nat) (wl : Nat → Int32), k + r = 64 → r < n → (∀ f, f < k → wl f = bI (p f)) → ∃ N, f_BargeBasinModel_turn_L246 (bI ov) nw n (nI k) wl = some N ∧ ∀ f, f < 64 → N f = bI (p f) := by
  intro r
  induction r with
  | zero =>
    intro k n wl h1 h2 h3
    obtain ⟨n, rfl⟩ : ∃ z, n = z + 1 := ⟨n - 1, by omega⟩
    have e : k = 64 := by omega
    subst e
    exact ⟨wl, by rw [f_BargeBasinModel_turn_L246, if_pos (show (64 : Int32) ≤ nI 64 by decide)], h3⟩
  | succ r ih =>
    intro k n wl h1 h2 h3
    obtain ⟨n, rfl⟩ : ∃ z, n = z + 1 := ⟨n - 1, by omega⟩
    rw [f_BargeBasinModel_turn_L246, if_neg (show ¬ (64 : Int32) ≤ nI k from nI_ge (b := 64) (by omega) (by decide)), ev_grdN _ (show k < 64 by omega) (by decide), ev_bnd, ev_grdN _ (show k < 64 by omega) (by decide), ev_bnd, nI_1, nI_clamp (show k < 2 ^ 31 by omega), hn k (by omega), nar_bI]
    exact ih (k + 1) n _ (by omega) (by omega) (fun f hf => by
      by_cases z : f = k
      · rw [z, pk_us]
      · rw [pk_un z]; exact h3 f (by omega))
theorem m_t297 {b0 : Nat} : ∀ (r y n : Nat) (lm : Nat → Int32), y + r = 8 → r < n → b0 ≤ y → (∀ z, b0 ≤ z → z < y → lm z < 0) → ∃ M, f_BargeBasinModel_turn_L297 n (nI y) lm = some M ∧ (∀ z, b0 ≤ z → z < 8 → M z < 0) := by
  intro r
  induction r with
  | zero =>
    intro y n lm h1 h2 h0 h3
    obtain ⟨n, rfl⟩ : ∃ z, n = z + 1 := ⟨n - 1, by omega⟩
    have e : y = 8 := by omega
    subst e
    exact ⟨lm, by rw [f_BargeBasinModel_turn_L297, if_pos (show (8 : Int32) ≤ nI 8 by decide)], h3⟩
  | succ r ih =>
    intro y n lm h1 h2 h0 h3
    obtain ⟨n, rfl⟩ : ∃ z, n = z + 1 := ⟨n - 1, by omega⟩
    rw [f_BargeBasinModel_turn_L297, if_neg (show ¬ (8 : Int32) ≤ nI y from nI_ge (b := 8) (by omega) (by decide)), ev_grdN _ (show y < 8 by omega) (by decide), ev_bnd, nI_1, nI_clamp (show y < 2 ^ 31 by omega)]
    exact ih (y + 1) n _ (by omega) (by omega) (by omega) (fun z h4 h5 => by
      by_cases e : z = y
      · rw [e, pk_us]; decide
      · rw [pk_un e]; exact h3 z h4 (by omega))
