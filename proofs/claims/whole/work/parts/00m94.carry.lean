/-! carry of both sides. -/
theorem cmpG {x y : Int64} : (0 < lg_cmp x y) = (y < x) := by
  unfold lg_cmp
  by_cases a : x > y
  · rw [if_pos a]
    exact propext ⟨fun _ => a, fun _ => by decide⟩
  · rw [if_neg a]
    by_cases b : x = y
    · rw [if_pos b]
      exact propext ⟨fun z => absurd z (by decide), fun z => absurd z a⟩
    · rw [if_neg b]
      exact propext ⟨fun z => absurd z (by decide), fun z => absurd z a⟩
theorem cmpLE {x y : Int64} : (lg_cmp x y ≤ 0) = (¬ y < x) := by
  have e := cmpG (x := x) (y := y)
  refine propext ⟨fun h z => ?_, fun h => ?_⟩
  · exact absurd (e.mpr z) (Int32.not_lt.mpr h)
  · exact Int32.not_lt.mp (fun z => h (e.mp z))
theorem long_sum {v w : Int32} {m : Nat} (hm : m < 100) : ((nI m).toInt64 < v.toInt64 + w.toInt64) = ((m : Int) < v.toInt + w.toInt) := by
  have a1 := Int32.toInt_lt v
  have a2 := Int32.le_toInt v
  have b1 := Int32.toInt_lt w
  have b2 := Int32.le_toInt w
  rw [Int64.lt_iff_toInt_lt, Int64.toInt_add, Int32.toInt_toInt64, Int32.toInt_toInt64, Int32.toInt_toInt64, nI_toInt (by omega), Int.bmod_eq_of_le (by omega) (by omega)]
theorem s_holds {csize : Nat → Int32} {y m : Nat} {v2 v5 : Int32} (hy : y < 8) (hm : m ≤ 8) (e : csize y = nI m) (h5 : 0 ≤ v5.toInt) : f_Lines_holds (nI y) v2 v5 csize = some (bI (decide (0 ≤ v2.toInt ∧ v2.toInt + v5.toInt ≤ m))) := by
  have t0 : (0 : Int32).toInt = 0 := rfl
  have b1 := Int32.toInt_lt v5
  unfold f_Lines_holds
  rw [ev_grdN _ hy (by decide), ev_grdN _ hy (by decide), nI_clamp (show y < 2 ^ 31 by omega), e]
  have es : (nI m - v5).toInt = m - v5.toInt := by
    rw [Int32.toInt_sub, nI_toInt (by omega), Int.bmod_eq_of_le (by omega) (by omega)]
  simp only [Int32.lt_iff_toInt_lt, t0, nI_toInt (show m < 2 ^ 31 by omega), es]
  by_cases c1 : v2.toInt < 0
  · rw [if_pos c1, decide_eq_false (by omega)]; rfl
  · rw [if_neg c1]
    by_cases c2 : (m : Int) < v5.toInt
    · rw [if_pos c2, decide_eq_false (by omega)]; rfl
    · rw [if_neg c2]
      by_cases c3 : (m : Int) - v5.toInt < v2.toInt
      · rw [if_pos c3, decide_eq_false (by omega)]; rfl
      · rw [if_neg c3, decide_eq_true (by omega)]; rfl
theorem s_copyL3 {num : Nat → Int32} {y a l : Nat} {v3 v4 : Int32} (hy : y < 8) (ha : a + l ≤ 8) : ∀ (d k n : Nat) (car : Nat → Int32), k + d = l → d < n → f_Lines_copy_L3 (nI y) (nI a) v3 v4 (nI l) num n (nI k) car = some (fun j => if k ≤ j ∧ j < l then num (8 * y + (a + j)) else car j) := by
  intro d
  induction d with
  | zero =>
    intro k n car h hn
    obtain ⟨m, rfl⟩ : ∃ m, n = m + 1 := ⟨n - 1, by omega⟩
    have e : k = l := by omega
    subst e
    rw [f_Lines_copy_L3, if_pos (nI_le (Nat.le_refl _) (by omega))]
    refine congrArg some (funext fun f => ?_)
    rw [if_neg (by omega)]
  | succ d ih =>
    intro k n car h hn
    obtain ⟨m, rfl⟩ : ∃ m, n = m + 1 := ⟨n - 1, by omega⟩
    have e : (8 : Int32) * nI y + nI (a + k) = nI (8 * y + (a + k)) := by rw [i8, nI_add]
    have nm : f_Lines_number (nI y) (nI (a + k)) num = some (num (8 * y + (a + k))) := by
      unfold f_Lines_number
      rw [e, ev_grdN _ (show 8 * y + (a + k) < 64 by omega) (by decide), nI_clamp (by omega)]
    rw [f_Lines_copy_L3, if_neg (nI_ge (show k < l by omega) (by omega)), nI_add, ev_b _ nm, ev_grdN _ (show k < 8 by omega) (by decide), ev_bnd, nI_1, nI_clamp (show k < 2 ^ 31 by omega), ih (k + 1) m _ (by omega) (by omega)]
    refine congrArg some (funext fun f => ?_)
    by_cases z : f = k
    · subst z
      rw [if_neg (by omega), if_pos (by omega), pk_us]
    · rw [pk_un z]
      by_cases c : k + 1 ≤ f ∧ f < l
      · rw [if_pos c, if_pos (by omega)]
      · rw [if_neg c, if_neg (by omega)]
/-- row y from b on gets g's first l numbers, those below k left out -/
def ovr (num g : Nat → Int32) (y b k l : Nat) : Nat → Int32 := fun f => if 8 * y + b + k ≤ f ∧ f < 8 * y + b + l then g (f - (8 * y + b)) else num f
theorem ovr_end {num g : Nat → Int32} {y b l : Nat} : ovr num g y b l l = num := by
  funext f; unfold ovr; rw [if_neg (by omega)]
theorem ovr_step {num g : Nat → Int32} {y b k l : Nat} (hk : k < l) : ovr (upd num (8 * y + b + k) (g k)) g y b (k + 1) l = ovr num g y b k l := by
  funext f
  unfold ovr
  by_cases z : f = 8 * y + b + k
  · rw [if_neg (by omega), if_pos (by omega), z, pk_us, show 8 * y + b + k - (8 * y + b) = k by omega]
  · rw [pk_un z]
    by_cases c : 8 * y + b + (k + 1) ≤ f ∧ f < 8 * y + b + l
    · rw [if_pos c, if_pos (by omega)]
    · rw [if_neg c, if_neg (by omega)]
theorem s_copyL35 {g car : Nat → Int32} {y b l : Nat} (hy : y < 8) (hb : b + l ≤ 8) (hg : ∀ k, k < l → car k = g k) : ∀ (d k n : Nat) (num : Nat → Int32), k + d = l → d < n → f_Lines_copy_L35 (nI y) (nI b) (nI l) car n (nI k) num = some (ovr num g y b k l) := by
  intro d
  induction d with
  | zero =>
    intro k n num h hn
    obtain ⟨m, rfl⟩ : ∃ m, n = m + 1 := ⟨n - 1, by omega⟩
    have e : k = l := by omega
    subst e
    rw [f_Lines_copy_L35, if_pos (nI_le (Nat.le_refl _) (by omega)), ovr_end]
  | succ d ih =>
    intro k n num h hn
    obtain ⟨m, rfl⟩ : ∃ m, n = m + 1 := ⟨n - 1, by omega⟩
    have wr : ∀ v, f_Lines_write (nI y) (nI (b + k)) v num = some (upd num (8 * y + b + k) v) := fun v => by
      unfold f_Lines_write
      rw [show (8 : Int32) * nI y + nI (b + k) = nI (8 * y + b + k) by rw [i8, nI_add, Nat.add_assoc], ev_grdN _ (show 8 * y + b + k < 64 by omega) (by decide), nI_clamp (by omega)]
    rw [f_Lines_copy_L35, if_neg (nI_ge (show k < l by omega) (by omega)), ev_grdN _ (show k < 8 by omega) (by decide), nI_add, ev_b _ (wr _), ev_bnd, nI_1, nI_clamp (show k < 2 ^ 31 by omega), ih (k + 1) m _ (by omega) (by omega), hg k (by omega), ovr_step (by omega)]
theorem s_copy {num : Nat → Int32} {y a z b l : Nat} (hy : y < 8) (hz : z < 8) (ha : a + l ≤ 8) (hb : b + l ≤ 8) (car : Nat → Int32) : ∃ car', f_Lines_copy (nI y) (nI a) (nI z) (nI b) (nI l) num car = some (ovr num (fun k => num (8 * y + (a + k))) z b 0 l, car') := by
  have e1 := s_copyL3 (num := num) (v3 := nI z) (v4 := nI b) hy ha l 0 jN car (by omega) (by show l < 2000000; omega)
  have e2 := s_copyL35 (g := fun k => num (8 * y + (a + k))) (car := fun j => if 0 ≤ j ∧ j < l then num (8 * y + (a + j)) else car j) hz hb (fun k hk => if_pos ⟨Nat.zero_le _, hk⟩) l 0 jN num (by omega) (by show l < 2000000; omega)
  refine ⟨fun j => if 0 ≤ j ∧ j < l then num (8 * y + (a + j)) else car j, ?_⟩
  unfold f_Lines_copy
  rw [ev_b _ (show f_Lines_copy_L3 (nI y) (nI a) (nI z) (nI b) (nI l) num jN 0 car = _ from e1), ev_b _ (show f_Lines_copy_L35 (nI z) (nI b) (nI l) _ jN 0 num = _ from e2)]
theorem m_carL {num0 : Nat → Int32} {y a z b l : Nat} (hy : y < 8) (hz : z < 8) (ha : a + l ≤ 8) (hb : b + l ≤ 8) {old : Nat → Int32} (ho : ∀ j, j < 8 → old j = num0 (8 * z + j)) : ∀ (d k n : Nat) (num : Nat → Int32), k + d = l → d < n → (∀ f, f / 8 ≠ z → num f = num0 f) → f_BargeBasinModel_carry_L160 (nI y) (nI a) (nI z) (nI b) (nI l) old n (nI k) num = some (ovr num (fun k => num0 (8 * y + (a + k))) z b k l) := by
  intro d
  induction d with
  | zero =>
    intro k n num h hn hq
    obtain ⟨m, rfl⟩ : ∃ m, n = m + 1 := ⟨n - 1, by omega⟩
    have e : k = l := by omega
    subst e
    rw [f_BargeBasinModel_carry_L160, if_pos (nI_le (Nat.le_refl _) (by omega)), ovr_end]
  | succ d ih =>
    intro k n num h hn hq
    obtain ⟨m, rfl⟩ : ∃ m, n = m + 1 := ⟨n - 1, by omega⟩
    have e1 : (8 : Int32) * nI z + nI b + nI k = nI (8 * z + b + k) := by rw [i8, nI_add, nI_add]
    have e2 : (8 : Int32) * nI y + nI a + nI k = nI (8 * y + a + k) := by rw [i8, nI_add, nI_add]
    have ee : (nI y = nI z) = (y = z) := nI_eqL (by omega) (by omega)
    have go := ih (k + 1) m (upd num (8 * z + b + k) (num0 (8 * y + (a + k)))) (by omega) (by omega) (fun f hf => by rw [pk_un (show f ≠ 8 * z + b + k by omega)]; exact hq f hf)
    rw [ovr_step (g := fun k => num0 (8 * y + (a + k))) (by omega)] at go
    rw [f_BargeBasinModel_carry_L160, if_neg (nI_ge (show k < l by omega) (by omega)), e1, e2, nI_add a k, ev_grdN _ (show a + k < 8 by omega) (by decide), ev_grdN _ (show 8 * y + a + k < 64 by omega) (by decide), nI_clamp (show a + k < 2 ^ 31 by omega), nI_clamp (show 8 * y + a + k < 2 ^ 31 by omega)]
    simp only [ee, ev_bnd, ev_grdN _ (show 8 * z + b + k < 64 by omega) (show 64 < 2 ^ 31 by decide), nI_clamp (show 8 * z + b + k < 2 ^ 31 by omega), nI_1]
    by_cases c : y = z
    · rw [if_pos c, ho _ (by omega), ← c, show 8 * y + (a + k) = 8 * y + (a + k) from rfl]
      rw [← c] at go
      exact go
    · rw [if_neg c, hq _ (by omega), Nat.add_assoc (8 * y) a k]
      exact go
theorem s_carL28 {B : Bas} {P : Nat → Nat} {num : Nat → Int32} {y a z b l : Nat} {kt : Int64} (h : basOk B) (ht : chT B P kt) (hy : y < 8) (hz : z < 8) (ha : a + l ≤ 8) (hb : b + l ≤ 8) : ∀ (d k n : Nat), k + d = l → d < n → ∃ t : Bool, f_BargeBasin_carry_L28 (nI y) (nI a) (nI z) (nI b) (nI l) num (nI (bw B)) kt n (nI k) = some (if t then .inl () else .inr ()) ∧ (t = true ↔ ∃ u, k ≤ u ∧ u < l ∧ ¬ num (8 * y + (a + u)) = 0 ∧ b + u < bw B ∧ tkA B P (b + u + 8 * z) = true) := by
  intro d
  induction d with
  | zero =>
    intro k n q hn
    obtain ⟨m, rfl⟩ : ∃ m, n = m + 1 := ⟨n - 1, by omega⟩
    refine ⟨false, ?_, fun z => by (cases z), fun ⟨u, u1, u2, _⟩ => by omega⟩
    rw [f_BargeBasin_carry_L28, if_pos (nI_le (show l ≤ k by omega) (by omega))]; rfl
  | succ d ih =>
    intro k n q hn
    obtain ⟨m, rfl⟩ : ∃ m, n = m + 1 := ⟨n - 1, by omega⟩
    obtain ⟨t, e1, q1⟩ := ih (k + 1) m (by omega) (by omega)
    have nm : f_Lines_number (nI y) (nI (a + k)) num = some (num (8 * y + (a + k))) := by
      unfold f_Lines_number
      rw [show (8 : Int32) * nI y + nI (a + k) = nI (8 * y + (a + k)) by rw [i8, nI_add], ev_grdN _ (show 8 * y + (a + k) < 64 by omega) (by decide), nI_clamp (by omega)]
    have rest : (∃ u, k + 1 ≤ u ∧ u < l ∧ ¬ num (8 * y + (a + u)) = 0 ∧ b + u < bw B ∧ tkA B P (b + u + 8 * z) = true) → ∃ u, k ≤ u ∧ u < l ∧ ¬ num (8 * y + (a + u)) = 0 ∧ b + u < bw B ∧ tkA B P (b + u + 8 * z) = true := fun ⟨u, u1, u2⟩ => ⟨u, by omega, u2⟩
    rw [f_BargeBasin_carry_L28, if_neg (nI_ge (show k < l by omega) (by omega)), nI_add, ev_b _ nm, nI_add, ev_b _ (s_isTaken h ht (show b + k < 8 by omega) hz)]
    simp only [ev_bnd, nI_1]
    by_cases c : num (8 * y + (a + k)) = 0
    · rw [if_pos c]
      refine ⟨t, e1, fun w => rest (q1.mp w), fun ⟨u, u1, u2, u3, u4⟩ => q1.mpr ⟨u, ?_, u2, u3, u4⟩⟩
      by_cases w : u = k
      · rw [w] at u3; exact absurd c u3
      · omega
    · rw [if_neg c]
      cases e : (decide (b + k < bw B) && tkA B P (b + k + 8 * z)) with
      | false =>
        rw [if_pos (show bI false = 0 by decide)]
        refine ⟨t, e1, fun w => rest (q1.mp w), fun ⟨u, u1, u2, u3, u4, u5⟩ => q1.mpr ⟨u, ?_, u2, u3, u4, u5⟩⟩
        by_cases w : u = k
        · rw [w] at u4 u5
          rw [u5, decide_eq_true u4] at e; cases e
        · omega
      | true =>
        rw [Bool.and_eq_true, decide_eq_true_eq] at e
        rw [if_neg (show ¬ bI true = 0 by decide)]
        exact ⟨true, rfl, fun _ => ⟨k, Nat.le_refl _, by omega, c, e.1, e.2⟩, fun _ => rfl⟩
