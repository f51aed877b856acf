/-- the reference's shelf k holds basin B with the barges at P -/
def kpR (B : Bas) (P : Nat → Nat) (k : Nat) (iK kW kH kN kWl kK kA kS kY kG : Nat → Int32) : Prop := iK k = 1 ∧ kW k = nI (bw B) ∧ kH k = nI (bh B) ∧ kN k = nI (bn B) ∧ (∀ f, f < 64 → kWl (64 * k + f) = bI (bwl B f)) ∧ (∀ b, b < bn B → kK (12 * k + b) = nI (bK B b) ∧ kS (12 * k + b) = nI (bS B b) ∧ kY (12 * k + b) = nI (bY B b)) ∧ (∀ b, b < bn B → kA (12 * k + b) = nI (P b)) ∧ (∀ b, b < bn B → bK B b = 5 → kG (12 * k + b) = nI (bG B b))
theorem m_keep {B : Bas} {P : Nat → Nat} {k : Nat} {khas kw kh kn : Int32} {kwl kk kat ks ky kg : Nat → Int32} (h : basOk B) (hr : rfX B P khas kw kh kn kwl kk kat ks ky kg) (hk : k < 4) (st2 th : Int32) (iK kW kH kN kWl kK kA kS kY kG : Nat → Int32) :
    ∃ (iK' kW' kH' kN' kWl' kK' kA' kS' kY' kG' : Nat → Int32), f_BargeBasinModel_keep (nI k) st2 th khas kw kh kn kwl kk kat ks ky kg iK kW kH kN kWl kK kA kS kY kG = some (1, 0, 0, iK', kW', kH', kN', kWl', kK', kA', kS', kY', kG') ∧ kpR B P k iK' kW' kH' kN' kWl' kK' kA' kS' kY' kG' ∧
      (∀ j, j ≠ k → iK' j = iK j) ∧ (∀ (C : Bas) (Q : Nat → Nat) (j : Nat), bn C ≤ 12 → j ≠ k → kpR C Q j iK kW kH kN kWl kK kA kS kY kG → kpR C Q j iK' kW' kH' kN' kWl' kK' kA' kS' kY' kG') := by
  have n12 := h.2.2.2.2.1
  obtain ⟨r1, r2, r3, r4, r5, r6, r7, r8⟩ := hr
  subst r1; subst r2; subst r3; subst r4
  have e1 := m_keepL77 (kwl := kwl) hk (fun f hf => by rw [r5 f hf, nar_bI]) 64 0 jN kWl (by omega) (by show 64 < 2000000; omega)
  have e2 := m_keepL108 (kk := kk) (kat := kat) (ks := ks) (ky := ky) (kg := kg) hk n12 (bn B) 0 jN kK kA kS kY kG (by omega) (by show bn B < 2000000; omega)
  refine ⟨upd iK k 1, upd kW k (nI (bw B)), upd kH k (nI (bh B)), upd kN k (nI (bn B)), ovk kWl kwl (64 * k) 0 64, ovk kK kk (12 * k) 0 (bn B), ovk kA kat (12 * k) 0 (bn B), ovk kS ks (12 * k) 0 (bn B), ovk kY ky (12 * k) 0 (bn B), ovk kG kg (12 * k) 0 (bn B), ?_, ?_, ?_, ?_⟩
  · unfold f_BargeBasinModel_keep
    have e3 : (nI k ≤ 3) = (k ≤ 3) := nI_leE (b := 3) (by omega) (by decide)
    rw [if_neg (show ¬ (1 : Int32) = 0 by decide), if_neg (nI_nn (by omega)), if_pos (show nI k ≤ 3 by rw [e3]; omega)]
    simp only [ev_grdN _ hk (show 4 < 2 ^ 31 by decide), nI_clamp (show k < 2 ^ 31 by omega)]
    rw [ev_b _ (show f_BargeBasinModel_keep_L77 (nI k) kwl jN 0 kWl = _ from e1), ev_b _ (show f_BargeBasinModel_keep_L108 (nI k) (nI (bn B)) kk kat ks ky kg jN 0 kK kA kS kY kG = _ from e2), un5_ap, show vp_nar .boolean (1 : Int32) = 1 from nar_bI true]
  · refine ⟨pk_us, pk_us, pk_us, pk_us, fun f hf => ?_, fun b hb => ?_, fun b hb => ?_, fun b hb e => ?_⟩
    · rw [ovk_in hf]; exact r5 f hf
    · rw [ovk_in hb, ovk_in hb, ovk_in hb]; exact r6 b hb
    · rw [ovk_in hb]; exact r7 b hb
    · rw [ovk_in hb]; exact r8 b hb e
  · intro j hj; exact pk_un hj
  · rintro C Q j c12 hj ⟨q1, q2, q3, q4, q5, q6, q7, q8⟩
    refine ⟨by rw [pk_un hj]; exact q1, by rw [pk_un hj]; exact q2, by rw [pk_un hj]; exact q3, by rw [pk_un hj]; exact q4, fun f hf => ?_, fun b hb => ?_, fun b hb => ?_, fun b hb e => ?_⟩
    · rw [ovk_out (by omega)]; exact q5 f hf
    · rw [ovk_out (by omega), ovk_out (by omega), ovk_out (by omega)]; exact q6 b hb
    · rw [ovk_out (by omega)]; exact q7 b hb
    · rw [ovk_out (by omega)]; exact q8 b hb e
theorem m_keepN {v1 : Int32} (hv : ¬ (0 ≤ v1.toInt ∧ v1.toInt < 4)) (st2 th kw kh kn : Int32) (kwl kk kat ks ky kg iK kW kH kN kWl kK kA kS kY kG : Nat → Int32) : f_BargeBasinModel_keep v1 st2 th 1 kw kh kn kwl kk kat ks ky kg iK kW kH kN kWl kK kA kS kY kG = some (0, 2, 0, iK, kW, kH, kN, kWl, kK, kA, kS, kY, kG) := by
  have t0 : (0 : Int32).toInt = 0 := rfl
  have t3 : (3 : Int32).toInt = 3 := by decide
  unfold f_BargeBasinModel_keep
  rw [if_neg (show ¬ (1 : Int32) = 0 by decide)]
  by_cases a : v1 < 0
  · rw [if_pos a]; rfl
  · rw [if_neg a, if_neg (show ¬ v1 ≤ 3 from fun z => by
      rw [Int32.lt_iff_toInt_lt, t0] at a
      rw [Int32.le_iff_toInt_le, t3] at z
      omega)]; rfl
