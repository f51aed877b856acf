/-! keep of the reference: its loops. -/
/-- g's first l values at s and behind it, those below k left out -/
def ovk (a g : Nat → Int32) (s k l : Nat) : Nat → Int32 := fun f => if s + k ≤ f ∧ f < s + l then g (f - s) else a f
theorem ovk_end {a g : Nat → Int32} {s l : Nat} : ovk a g s l l = a := by
  funext f; unfold ovk; rw [if_neg (by omega)]
theorem ovk_step {a g : Nat → Int32} {s k l : Nat} (hk : k < l) : ovk (upd a (s + k) (g k)) g s (k + 1) l = ovk a g s k l := by
  funext f
  unfold ovk
  by_cases z : f = s + k
  · rw [if_neg (by omega), if_pos (by omega), z, pk_us, show s + k - s = k by omega]
  · rw [pk_un z]
    by_cases c : s + (k + 1) ≤ f ∧ f < s + l
    · rw [if_pos c, if_pos (by omega)]
    · rw [if_neg c, if_neg (by omega)]
theorem ovk_in {a g : Nat → Int32} {s l i : Nat} (hi : i < l) : ovk a g s 0 l (s + i) = g i := by
  unfold ovk; rw [if_pos (by omega), show s + i - s = i by omega]
theorem ovk_out {a g : Nat → Int32} {s l f : Nat} (h : f < s ∨ s + l ≤ f) : ovk a g s 0 l f = a f := by
  unfold ovk; rw [if_neg (by omega)]
theorem m_keepL77 {k : Nat} {kwl : Nat → Int32} (hk : k < 4) (hw : ∀ f, f < 64 → vp_nar .boolean (kwl f) = kwl f) : ∀ (d i n : Nat) (a : Nat → Int32), i + d = 64 → d < n → f_BargeBasinModel_keep_L77 (nI k) kwl n (nI i) a = some (ovk a kwl (64 * k) i 64) := by
  intro d
  induction d with
  | zero =>
    intro i n a h hn
    obtain ⟨m, rfl⟩ : ∃ m, n = m + 1 := ⟨n - 1, by omega⟩
    have e : i = 64 := by omega
    subst e
    rw [f_BargeBasinModel_keep_L77, if_pos (show (64 : Int32) ≤ nI 64 by decide), ovk_end]
  | succ d ih =>
    intro i n a h hn
    obtain ⟨m, rfl⟩ : ∃ m, n = m + 1 := ⟨n - 1, by omega⟩
    have e : (64 : Int32) * nI k + nI i = nI (64 * k + i) := by rw [show (64 : Int32) * nI k = nI (64 * k) from pk_mul 64 k, nI_add]
    rw [f_BargeBasinModel_keep_L77, if_neg (show ¬ (64 : Int32) ≤ nI i from nI_ge (b := 64) (show i < 64 by omega) (by decide)), e, ev_grdN _ (show i < 64 by omega) (by decide), ev_bnd, ev_grdN _ (show 64 * k + i < 256 by omega) (by decide), ev_bnd, nI_1, nI_clamp (show i < 2 ^ 31 by omega), nI_clamp (show 64 * k + i < 2 ^ 31 by omega), hw i (by omega), ih (i + 1) m _ (by omega) (by omega), ovk_step (by omega)]
theorem m_keepL108 {k N : Nat} {kk kat ks ky kg : Nat → Int32} (hk : k < 4) (hN : N ≤ 12) : ∀ (d i n : Nat) (a b c e f : Nat → Int32), i + d = N → d < n → f_BargeBasinModel_keep_L108 (nI k) (nI N) kk kat ks ky kg n (nI i) a b c e f = some (ovk a kk (12 * k) i N, ovk b kat (12 * k) i N, ovk c ks (12 * k) i N, ovk e ky (12 * k) i N, ovk f kg (12 * k) i N) := by
  intro d
  induction d with
  | zero =>
    intro i n a b c e f h hn
    obtain ⟨m, rfl⟩ : ∃ m, n = m + 1 := ⟨n - 1, by omega⟩
    have e : i = N := by omega
    subst e
    rw [f_BargeBasinModel_keep_L108, if_pos (nI_le (Nat.le_refl _) (by omega)), ovk_end, ovk_end, ovk_end, ovk_end, ovk_end]
  | succ d ih =>
    intro i n a b c e f h hn
    obtain ⟨m, rfl⟩ : ∃ m, n = m + 1 := ⟨n - 1, by omega⟩
    have e12 : (12 : Int32) * nI k + nI i = nI (12 * k + i) := by rw [show (12 : Int32) * nI k = nI (12 * k) from pk_mul 12 k, nI_add]
    rw [f_BargeBasinModel_keep_L108, if_neg (nI_ge (show i < N by omega) (by omega)), e12]
    simp only [ev_bnd, ev_grdN _ (show i < 12 by omega) (show 12 < 2 ^ 31 by decide), ev_grdN _ (show 12 * k + i < 48 by omega) (show 48 < 2 ^ 31 by decide), nI_clamp (show i < 2 ^ 31 by omega), nI_clamp (show 12 * k + i < 2 ^ 31 by omega), nI_1]
    rw [ih (i + 1) m _ _ _ _ _ (by omega) (by omega), ovk_step (by omega), ovk_step (by omega), ovk_step (by omega), ovk_step (by omega), ovk_step (by omega)]
