/-! Who hinders: hinderer of the class, beside and least of the reference. -/
theorem minO_some {a b : Option Nat} {c : Nat} (h : minO a b = some c) : (a = some c ∨ b = some c) ∧ (∀ x, a = some x → c ≤ x) ∧ (∀ x, b = some x → c ≤ x) := by
  cases a with
  | none => exact ⟨Or.inr h, fun x hx => by (cases hx), fun x hx => by have h' : b = some c := h; rw [h'] at hx; cases hx; exact Nat.le_refl _⟩
  | some a =>
    cases b with
    | none => exact ⟨Or.inl h, fun x hx => by have h' : some a = some c := h; rw [h'] at hx; cases hx; exact Nat.le_refl _, fun x hx => by (cases hx)⟩
    | some b =>
      have h' : some (if b < a then b else a) = some c := h
      have e := Option.some.inj h'
      by_cases l : b < a
      · rw [if_pos l] at e
        subst e
        exact ⟨Or.inr rfl, fun x hx => by cases hx; omega, fun x hx => by cases hx; exact Nat.le_refl _⟩
      · rw [if_neg l] at e
        subst e
        exact ⟨Or.inl rfl, fun x hx => by cases hx; exact Nat.le_refl _, fun x hx => by cases hx; omega⟩
theorem besO_some {w h q c : Nat} {wo : Nat → Option Nat} (e : besO w h q wo = some c) : (∃ d, d < 4 ∧ nbO w h q wo d = some c) ∧ ∀ d, d < 4 → ∀ x, nbO w h q wo d = some x → c ≤ x := by
  unfold besO at e
  obtain ⟨a1, a2, a3⟩ := minO_some e
  have s2 : ∀ y, minO (minO (nbO w h q wo 0) (nbO w h q wo 1)) (nbO w h q wo 2) = some y → c ≤ y := a2
  have gen : ∀ {p r : Option Nat} {x m : Nat}, (∀ y, minO p r = some y → m ≤ y) → (p = some x → m ≤ x) ∧ (r = some x → m ≤ x) := by
    intro p r x m H
    constructor
    · intro hp
      cases z : minO p r with
      | none => rw [minO_none] at z; rw [z.1] at hp; cases hp
      | some y => have := (minO_some z).2.1 x hp; have := H y z; omega
    · intro hr
      cases z : minO p r with
      | none => rw [minO_none] at z; rw [z.2] at hr; cases hr
      | some y => have := (minO_some z).2.2 x hr; have := H y z; omega
  have s1 : ∀ y, minO (nbO w h q wo 0) (nbO w h q wo 1) = some y → c ≤ y := fun y hy => (gen s2).1 hy
  constructor
  · rcases a1 with z | z
    · obtain ⟨b1, -, -⟩ := minO_some z
      rcases b1 with y | y
      · obtain ⟨c1, -, -⟩ := minO_some y
        rcases c1 with x | x
        · exact ⟨0, by decide, x⟩
        · exact ⟨1, by decide, x⟩
      · exact ⟨2, by decide, y⟩
    · exact ⟨3, by decide, z⟩
  · intro d hd x hx
    have : d = 0 ∨ d = 1 ∨ d = 2 ∨ d = 3 := by omega
    rcases this with z | z | z | z <;> subst z
    · exact (gen s1).1 hx
    · exact (gen s1).2 hx
    · exact (gen s2).2 hx
    · exact a3 x hx
theorem bes_fst {B : Bas} {P : Nat → Nat} {b q : Nat} (h : basOk B) (hs : stOk B P) (hq : q < 64) (hb1 : ∀ f, f < 64 → nextTo q f = true → ¬ whoN (fbA B P) (bn B) f = some b) : fstI (bn B) (fun c => decide (¬ some b = some c) && anyF (fun f => fbA B P c f && nextTo q f)) (besO (bw B) (bh B) q (whoN (fbA B P) (bn B))) := by
  have w8 := h.2.1
  have h8 := h.2.2.2.1
  have key : ∀ a, a < bn B → (decide (¬ some b = some a) && anyF (fun f => fbA B P a f && nextTo q f)) = true → ∃ d, d < 4 ∧ nbO (bw B) (bh B) q (whoN (fbA B P) (bn B)) d = some a := by
    intro a ha z
    rw [Bool.and_eq_true, anyF_t] at z
    obtain ⟨-, f, hf, y⟩ := z
    rw [Bool.and_eq_true] at y
    obtain ⟨i1, i2⟩ := fb_w hs.1 ha y.1
    obtain ⟨d, hd, g, e⟩ := (nextTo_nxt w8 h8 hq hf i1 i2).mp y.2
    refine ⟨d, hd, ?_⟩
    unfold nbO
    rw [if_pos g, e]
    exact (whoN_some hs.2.1 hf).mpr ⟨ha, y.1⟩
  constructor
  · intro c hc
    obtain ⟨⟨d, hd, e⟩, q2⟩ := besO_some hc
    unfold nbO at e
    by_cases g : goIn (bw B) (bh B) 1 1 d q = true
    · rw [if_pos g] at e
      obtain ⟨g1, g2, g3, -, -⟩ := goIn_t w8 h8 (Nat.le_refl 1) (Nat.le_refl 1) hd g
      have nt := (nextTo_nxt w8 h8 hq g1 (by omega) (by omega)).mpr ⟨d, hd, g, rfl⟩
      have m := whoN_mem e
      refine ⟨m.1, ?_, ?_⟩
      · rw [Bool.and_eq_true, anyF_t]
        refine ⟨?_, nxt d q, g1, by rw [m.2, nt]; rfl⟩
        rw [decide_eq_true_eq]
        intro z
        cases z
        exact hb1 _ g1 nt e
      · intro a ha
        rw [← Bool.not_eq_true]
        intro z
        obtain ⟨d', hd', e'⟩ := key a (by omega) z
        have := q2 d' hd' a e'
        omega
    · rw [if_neg g] at e; cases e
  · intro hn c hc
    rw [← Bool.not_eq_true]
    intro z
    obtain ⟨d, hd, e⟩ := key c hc z
    rw [besO_none.mp hn d hd] at e
    cases e
theorem m_leL55 {b X Y j W : Nat} {kk ks ky kwho : Nat → Int32} {wo : Nat → Option Nat}
    (hb : b < 12) (hw : f_BargeBasinModel_wide (nI b) kk ks ky = some (nI W)) (hwo : ∀ f, f < 64 → kwho f = oI (wo f)) (ho : ∀ f c, wo f = some c → c < 12) (hX : X + W ≤ 8) (hj : j < 8) :
    ∀ (r i n m : Nat), i + r = X + W → r < n → m ≤ 12 → ∃ m', f_BargeBasinModel_least_L55 (nI b) (nI X) (nI Y) (nI j) kk ks ky kwho n (nI m) (nI i) = some (nI m') ∧ m' ≤ m ∧ (m' = m ∨ ∃ x, i ≤ x ∧ x < X + W ∧ wo (x + 8 * j) = some m' ∧ m' ≠ b) ∧ (∀ x c, i ≤ x → x < X + W → wo (x + 8 * j) = some c → c ≠ b → m' ≤ c) := by
  intro r
  induction r with
  | zero =>
    intro i n m h1 h2 h3
    obtain ⟨n, rfl⟩ : ∃ z, n = z + 1 := ⟨n - 1, by omega⟩
    exact ⟨m, by rw [f_BargeBasinModel_least_L55, ev_b _ hw, nI_add, if_pos (nI_le (by omega) (by omega))], Nat.le_refl _, Or.inl rfl, fun x c q1 q2 => by omega⟩
  | succ r ih =>
    intro i n m h1 h2 h3
    obtain ⟨n, rfl⟩ : ∃ z, n = z + 1 := ⟨n - 1, by omega⟩
    have o31 : ∀ c, wo (i + 8 * j) = some c → c < 2 ^ 31 := fun c hc => by have := ho _ c hc; omega
    rw [f_BargeBasinModel_least_L55, ev_b _ hw, nI_add, if_neg (nI_ge (by omega) (by omega)), i8, nI_add, ev_grdN _ (show i + 8 * j < 64 by omega) (by decide), ev_grdN _ (show i + 8 * j < 64 by omega) (by decide), ev_grdN _ (show i + 8 * j < 64 by omega) (by decide), nI_clamp (show i + 8 * j < 2 ^ 31 by omega), hwo _ (show i + 8 * j < 64 by omega)]
    simp only [oI_neg o31, oI_eq (show b < 2 ^ 31 by omega) o31, ev_bnd, nI_1]
    have go : ∀ m0, m0 ≤ m → (m0 = m ∨ (wo (i + 8 * j) = some m0 ∧ m0 ≠ b)) → (∀ c, wo (i + 8 * j) = some c → c ≠ b → m0 ≤ c) → ∃ m', f_BargeBasinModel_least_L55 (nI b) (nI X) (nI Y) (nI j) kk ks ky kwho n (nI m0) (nI (i + 1)) = some (nI m') ∧ m' ≤ m ∧ (m' = m ∨ ∃ x, i ≤ x ∧ x < X + W ∧ wo (x + 8 * j) = some m' ∧ m' ≠ b) ∧ (∀ x c, i ≤ x → x < X + W → wo (x + 8 * j) = some c → c ≠ b → m' ≤ c) := by
      intro m0 l0 e0 c0
      obtain ⟨m', e, q1, q2, q3⟩ := ih (i + 1) n m0 (by omega) (by omega) (by omega)
      refine ⟨m', e, by omega, ?_, ?_⟩
      · rcases q2 with z | ⟨x, x1, x2, x3⟩
        · rcases e0 with y | y
          · exact Or.inl (by rw [z, y])
          · exact Or.inr ⟨i, Nat.le_refl _, by omega, by rw [z]; exact y⟩
        · exact Or.inr ⟨x, by omega, x2, x3⟩
      · intro x c x1 x2 x3 x4
        by_cases z : x = i
        · subst z
          have := c0 c x3 x4
          omega
        · exact q3 x c (by omega) x2 x3 x4
    cases ew : wo (i + 8 * j) with
    | none =>
      rw [if_pos rfl]
      exact go m (Nat.le_refl _) (Or.inl rfl) (fun c hc => by rw [ew] at hc; cases hc)
    | some c =>
      have c12 := ho _ c ew
      rw [if_neg (by intro z; cases z)]
      by_cases cb : c = b
      · rw [if_pos (by rw [cb])]
        exact go m (Nat.le_refl _) (Or.inl rfl) (fun c' hc' hne => by rw [ew] at hc'; cases hc'; exact absurd cb hne)
      · rw [if_neg (by intro z; exact cb (Option.some.inj z))]
        show ∃ m', f_BargeBasinModel_least_L55 (nI b) (nI X) (nI Y) (nI j) kk ks ky kwho n (if nI c < nI m then nI c else nI m) (nI (i + 1)) = some (nI m') ∧ _
        by_cases l : c < m
        · rw [if_pos (nI_lt l (by omega))]
          exact go c (by omega) (Or.inr ⟨ew, cb⟩) (fun c' hc' _ => by rw [ew] at hc'; cases hc'; exact Nat.le_refl _)
        · rw [if_neg (nI_nlt (by omega) (by omega))]
          exact go m (Nat.le_refl _) (Or.inl rfl) (fun c' hc' _ => by rw [ew] at hc'; cases hc'; omega)
theorem m_leL39 {b X Y W H : Nat} {kk ks ky kwho : Nat → Int32} {wo : Nat → Option Nat}
    (hb : b < 12) (hw : f_BargeBasinModel_wide (nI b) kk ks ky = some (nI W)) (ht : f_BargeBasinModel_tall (nI b) kk ks ky = some (nI H)) (hwo : ∀ f, f < 64 → kwho f = oI (wo f)) (ho : ∀ f c, wo f = some c → c < 12) (hX : X + W ≤ 8) (hY : Y + H ≤ 8) :
    ∀ (r j n m : Nat), j + r = Y + H → r < n → m ≤ 12 → ∃ m', f_BargeBasinModel_least_L39 (nI b) (nI X) (nI Y) kk ks ky kwho n (nI m) (nI j) = some (nI m') ∧ m' ≤ m ∧ (m' = m ∨ ∃ z x, j ≤ z ∧ z < Y + H ∧ X ≤ x ∧ x < X + W ∧ wo (x + 8 * z) = some m' ∧ m' ≠ b) ∧ (∀ z x c, j ≤ z → z < Y + H → X ≤ x → x < X + W → wo (x + 8 * z) = some c → c ≠ b → m' ≤ c) := by
  intro r
  induction r with
  | zero =>
    intro j n m h1 h2 h3
    obtain ⟨n, rfl⟩ : ∃ z, n = z + 1 := ⟨n - 1, by omega⟩
    exact ⟨m, by rw [f_BargeBasinModel_least_L39, ev_b _ ht, nI_add, if_pos (nI_le (by omega) (by omega))], Nat.le_refl _, Or.inl rfl, fun z x c q1 q2 => by omega⟩
  | succ r ih =>
    intro j n m h1 h2 h3
    obtain ⟨n, rfl⟩ : ∃ z, n = z + 1 := ⟨n - 1, by omega⟩
    obtain ⟨m1, e1, q1, q2, q3⟩ := m_leL55 (Y := Y) hb hw hwo ho hX (show j < 8 by omega) W X jN m (by omega) (by show W < 2000000; omega) h3
    obtain ⟨m2, e2, p1, p2, p3⟩ := ih (j + 1) n m1 (by omega) (by omega) (by omega)
    refine ⟨m2, by rw [f_BargeBasinModel_least_L39, ev_b _ ht, nI_add, if_neg (nI_ge (by omega) (by omega)), ev_b _ e1, ev_bnd, nI_1, e2], by omega, ?_, ?_⟩
    · rcases p2 with z | ⟨z, x, x1, x2, x3⟩
      · rcases q2 with y | ⟨x, y1, y2, y3⟩
        · exact Or.inl (by rw [z, y])
        · exact Or.inr ⟨j, x, Nat.le_refl _, by omega, y1, y2, by rw [z]; exact y3⟩
      · exact Or.inr ⟨z, x, by omega, x2, x3⟩
    · intro z x c z1 z2 x1 x2 hw' hne
      by_cases y : z = j
      · subst y
        have := q3 x c x1 x2 hw' hne
        omega
      · exact p3 z x c (by omega) z2 x1 x2 hw' hne
