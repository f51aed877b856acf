/-! same where there is no such shelf, or nothing on it; out and status of the reference. -/
theorem s_sameN {B : Bas} {v1 : Int32} {shelves : Nat → Option Nat} (h : basOk B) (hv : ¬ (0 ≤ v1.toInt ∧ v1.toInt < 4)) (st : Int32) : f_BargeBasin_same_shx v1 st (nI (bw B)) shelves = some (-1, 2) := by
  have t0 : (0 : Int32).toInt = 0 := rfl
  have t4 : (4 : Int32).toInt = 4 := by decide
  unfold f_BargeBasin_same_shx
  rw [ev_b _ (noBas h), if_pos rfl]
  by_cases a : v1 < 0
  · rw [if_pos a]; rfl
  · rw [if_neg a, if_neg (show ¬ v1 < 4 from fun z => by
      rw [Int32.lt_iff_toInt_lt, t0] at a
      rw [Int32.lt_iff_toInt_lt, t4] at z
      omega)]; rfl
theorem s_same0 {B : Bas} {k : Nat} {shelves : Nat → Option Nat} (h : basOk B) (hk : k < 4) (hs : shelves k = none) (st : Int32) : f_BargeBasin_same_sh0 (nI k) st (nI (bw B)) shelves = some (-1, 11) := by
  have e3 : (nI k < 4) = (k < 4) := nI_ltE (b := 4) (by omega) (by decide)
  unfold f_BargeBasin_same_sh0 jshN
  rw [ev_b _ (noBas h), if_pos rfl, if_neg (nI_nn (by omega)), if_pos (show nI k < 4 by rw [e3]; exact hk), ev_grdN _ hk (by decide), nI_clamp (show k < 2 ^ 31 by omega), if_pos hs]
  rfl
theorem m_sameN {v1 : Int32} (hv : ¬ (0 ≤ v1.toInt ∧ v1.toInt < 4)) (st th kw kh kn aw ah : Int32) (kwl kk kat ks ky kg iK kW kH kN kWl kK kA kS kY kG nw aat ag ay awd ata awl : Nat → Int32) : f_BargeBasinModel_same v1 st th 1 kw kh kn aw ah kwl kk kat ks ky kg iK kW kH kN kWl kK kA kS kY kG nw aat ag ay awd ata awl = some (-1, 2, 0, aw, ah, nw, aat, ag, ay, awd, ata, awl) := by
  have t0 : (0 : Int32).toInt = 0 := rfl
  have t3 : (3 : Int32).toInt = 3 := by decide
  unfold f_BargeBasinModel_same
  rw [if_neg (show ¬ (1 : Int32) = 0 by decide)]
  by_cases a : v1 < 0
  · rw [if_pos a]; rfl
  · rw [if_neg a, if_neg (show ¬ v1 ≤ 3 from fun z => by
      rw [Int32.lt_iff_toInt_lt, t0] at a
      rw [Int32.le_iff_toInt_le, t3] at z
      omega)]; rfl
theorem m_same0 {k : Nat} {iK : Nat → Int32} (hk : k < 4) (hi : iK k = 0) (st th kw kh kn aw ah : Int32) (kwl kk kat ks ky kg kW kH kN kWl kK kA kS kY kG nw aat ag ay awd ata awl : Nat → Int32) : f_BargeBasinModel_same (nI k) st th 1 kw kh kn aw ah kwl kk kat ks ky kg iK kW kH kN kWl kK kA kS kY kG nw aat ag ay awd ata awl = some (-1, 11, 0, aw, ah, nw, aat, ag, ay, awd, ata, awl) := by
  have e3 : (nI k ≤ 3) = (k ≤ 3) := nI_leE (b := 3) (by omega) (by decide)
  unfold f_BargeBasinModel_same
  rw [if_neg (show ¬ (1 : Int32) = 0 by decide), if_neg (nI_nn (by omega)), if_pos (show nI k ≤ 3 by rw [e3]; omega), ev_grdN _ hk (by decide), nI_clamp (show k < 2 ^ 31 by omega), hi, if_pos rfl]
  rfl
/-- the number of a shelf -/
theorem shf (v1 : Int32) : (∃ k, k < 4 ∧ v1 = nI k) ∨ ¬ (0 ≤ v1.toInt ∧ v1.toInt < 4) := by
  by_cases c : 0 ≤ v1.toInt ∧ v1.toInt < 4
  · refine Or.inl ⟨v1.toInt.toNat, by omega, ?_⟩
    apply Int32.toInt_inj.mp
    rw [nI_toInt (by omega)]
    omega
  · exact Or.inr c
/-- out of the reference: it throws where show() left no such sign -/
theorem m_out {cnt outs : Int32} {sh out : Nat → Int32} (hs : shR cnt sh outs out) (v1 th : Int32) : ((v1 < 0 ∨ cnt ≤ v1) ∧ f_BargeBasinModel_out v1 th outs out = some (0, 1)) ∨ (∃ k, v1 = nI k ∧ k < 8 ∧ ¬ v1 < 0 ∧ ¬ cnt ≤ v1 ∧ f_BargeBasinModel_out v1 th outs out = some (sh k, 0)) := by
  obtain ⟨w, w8, e1, e2, q⟩ := hs
  subst e1; subst e2
  unfold f_BargeBasinModel_out
  by_cases a : v1 < 0
  · rw [if_pos a]; exact Or.inl ⟨Or.inl a, rfl⟩
  · rw [if_neg a]
    by_cases b : nI w ≤ v1
    · rw [if_neg (fun z => by rw [Int32.lt_iff_toInt_lt] at z; rw [Int32.le_iff_toInt_le] at b; omega)]
      exact Or.inl ⟨Or.inr b, rfl⟩
    · have lt : v1 < nI w := Int32.not_le.mp b
      obtain ⟨k, hk, e⟩ : ∃ k, k < w ∧ v1 = nI k := by
        have t0 : (0 : Int32).toInt = 0 := rfl
        rw [Int32.lt_iff_toInt_lt, t0] at a
        rw [Int32.lt_iff_toInt_lt, nI_toInt (by omega)] at lt
        refine ⟨v1.toInt.toNat, by omega, ?_⟩
        apply Int32.toInt_inj.mp
        rw [nI_toInt (by omega)]
        omega
      rw [if_pos lt]
      subst e
      refine Or.inr ⟨k, rfl, by omega, a, b, ?_⟩
      rw [ev_grdN _ (show k < 8 by omega) (by decide), nI_clamp (show k < 2 ^ 31 by omega), q k hk]
