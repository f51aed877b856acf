/-! The reference's small methods. A barge: kind k, length s, way y (0 along, 1 across). -/
def bW (k s y : Nat) : Nat := if k = 3 then 2 else if k = 1 ∨ k = 5 then (if y = 0 then s else 1) else 1
def bH (k s y : Nat) : Nat := if k = 3 then 2 else if k = 1 ∨ k = 5 then (if y = 1 then s else 1) else 1
theorem nI_eqL {k j : Nat} (hk : k < 2 ^ 31) (hj : j < 2 ^ 31) : (nI k = nI j) = (k = j) := propext (nI_eq hk hj)
theorem cl_nI {b : Nat} (hb : b < 12) : (nI b).toNatClampNeg = b := nI_clamp (by omega)
theorem m_isLong {b k : Nat} {kk : Nat → Int32} (hb : b < 12) (hk : kk b = nI k) (h6 : k < 6) : f_BargeBasinModel_isLong (nI b) kk = some (bI (decide (k = 1 ∨ k = 5))) := by
  unfold f_BargeBasinModel_isLong
  rw [ev_grdN _ hb (by decide), ev_grdN _ hb (by decide), cl_nI hb, hk]
  have h : ∀ k, k < 6 → (if nI k = 1 then some 1 else if nI k = 5 then some 1 else some (0 : Int32)) = some (bI (decide (k = 1 ∨ k = 5))) := by decide +kernel
  exact h k h6
theorem m_wide {b k s y : Nat} {kk ks ky : Nat → Int32} (hb : b < 12) (hk : kk b = nI k) (hs : ks b = nI s) (hy : ky b = nI y) (h6 : k < 6) (h2 : y < 2) : f_BargeBasinModel_wide (nI b) kk ks ky = some (nI (bW k s y)) := by
  unfold f_BargeBasinModel_wide
  rw [ev_grdN _ hb (by decide), ev_b _ (m_isLong hb hk h6), ev_grdN _ hb (by decide), ev_grdN _ hb (by decide), cl_nI hb, hk, hs, hy]
  have c1 : (nI k = 3) = (k = 3) := nI_eqL (j := 3) (by omega) (by decide)
  have c2 : (nI y = 0) = (y = 0) := nI_eqL (j := 0) (by omega) (by decide)
  have c3 : (bI (decide (k = 1 ∨ k = 5)) = 0) = ¬ (k = 1 ∨ k = 5) := by rw [bI_0, decide_eq_false_iff_not]
  simp only [c1, c2, c3]
  unfold bW
  by_cases a : k = 3
  · simp only [a, if_true]; rfl
  · by_cases c : k = 1 ∨ k = 5
    · by_cases d : y = 0
      · simp only [a, c, d, if_true, if_false, not_true_eq_false]
      · simp only [a, c, d, if_true, if_false, not_true_eq_false]; rfl
    · simp only [a, c, if_true, if_false, not_false_eq_true]; rfl
theorem m_tall {b k s y : Nat} {kk ks ky : Nat → Int32} (hb : b < 12) (hk : kk b = nI k) (hs : ks b = nI s) (hy : ky b = nI y) (h6 : k < 6) (h2 : y < 2) : f_BargeBasinModel_tall (nI b) kk ks ky = some (nI (bH k s y)) := by
  unfold f_BargeBasinModel_tall
  rw [ev_grdN _ hb (by decide), ev_b _ (m_isLong hb hk h6), ev_grdN _ hb (by decide), ev_grdN _ hb (by decide), cl_nI hb, hk, hs, hy]
  have c1 : (nI k = 3) = (k = 3) := nI_eqL (j := 3) (by omega) (by decide)
  have c2 : (nI y = 1) = (y = 1) := nI_eqL (j := 1) (by omega) (by decide)
  have c3 : (bI (decide (k = 1 ∨ k = 5)) = 0) = ¬ (k = 1 ∨ k = 5) := by rw [bI_0, decide_eq_false_iff_not]
  simp only [c1, c2, c3]
  unfold bH
  by_cases a : k = 3
  · simp only [a, if_true]; rfl
  · by_cases c : k = 1 ∨ k = 5
    · by_cases d : y = 1
      · simp only [a, c, d, if_true, if_false, not_true_eq_false]
      · simp only [a, c, d, if_true, if_false, not_true_eq_false]; rfl
    · simp only [a, c, if_true, if_false, not_false_eq_true]; rfl
