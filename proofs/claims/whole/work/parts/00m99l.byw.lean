/-! Lines that tell the walls: showWalls of the class, linesByWalls of the reference. -/
theorem s_shwX {B : Bas} {y : Nat} {cwl : Int64} (h : basOk B) (hw : chW B cwl) (hy : y < 8) : ∀ (r x n : Nat) (num : Nat → Int32), x + r = bw B → r < n → (∀ i, i < x → num (8 * y + i) = bI (bwl B (i + 8 * y))) → ∃ N, f_Lines_showWalls_L26 (nI y) (nI (bw B)) cwl n (nI x) num = some N ∧ (∀ i, i < bw B → N (8 * y + i) = bI (bwl B (i + 8 * y))) ∧ (∀ f, f / 8 ≠ y → N f = num f) := by
  have w8 := h.2.1
  intro r
  induction r with
  | zero =>
    intro x n num h1 h2 h3
    obtain ⟨n, rfl⟩ : ∃ z, n = z + 1 := ⟨n - 1, by omega⟩
    have e : x = bw B := by omega
    subst e
    exact ⟨num, by rw [f_Lines_showWalls_L26, if_pos (nI_le (Nat.le_refl _) (by omega))], h3, fun _ _ => rfl⟩
  | succ r ih =>
    intro x n num h1 h2 h3
    obtain ⟨n, rfl⟩ : ∃ z, n = z + 1 := ⟨n - 1, by omega⟩
    have e : (8 : Int32) * nI y + nI x = nI (8 * y + x) := by rw [i8, nI_add]
    have wr : ∀ v, f_Lines_write (nI y) (nI x) v num = some (upd num (8 * y + x) v) := by
      intro v
      unfold f_Lines_write
      rw [e, ev_grdN _ (show 8 * y + x < 64 by omega) (by decide), nI_clamp (by omega)]
    obtain ⟨N, n1, n2, n3⟩ := ih (x + 1) n (upd num (8 * y + x) (bI (bwl B (x + 8 * y)))) (by omega) (by omega) (fun i hi => by
      by_cases z : i = x
      · rw [z, pk_us]
      · rw [pk_un (by omega)]; exact h3 i (by omega))
    refine ⟨N, ?_, n2, fun f hf => by rw [n3 f hf, pk_un (by omega)]⟩
    rw [f_Lines_showWalls_L26, if_neg (nI_ge (show x < bw B by omega) (by omega)), ev_b _ (s_isWall h hw (by omega) hy), ev_b _ (wr 0), ev_b _ (wr 1)]
    simp only [ev_bnd, nI_1]
    rw [← n1]
    cases bwl B (x + 8 * y) <;> rfl
theorem s_shwY {B : Bas} {cwl : Int64} (h : basOk B) (hw : chW B cwl) : ∀ (r y n : Nat) (so si num : Nat → Int32), y + r = bh B → r < n → (∀ z, z < y → so z = 0 ∧ si z = nI (bw B) ∧ ∀ i, i < bw B → num (8 * z + i) = bI (bwl B (i + 8 * z))) → (∀ z, y ≤ z → z < 8 → so z = -1) → ∃ S Z N, f_Lines_showWalls_L6 (nI (bw B)) (nI (bh B)) cwl n (nI y) so si num = some (S, Z, N) ∧ (∀ z, z < bh B → S z = 0 ∧ Z z = nI (bw B) ∧ ∀ i, i < bw B → N (8 * z + i) = bI (bwl B (i + 8 * z))) ∧ (∀ z, bh B ≤ z → z < 8 → S z = -1) := by
  have w8 := h.2.1
  have h8 := h.2.2.2.1
  intro r
  induction r with
  | zero =>
    intro y n so si num h1 h2 h3 h4
    obtain ⟨n, rfl⟩ : ∃ z, n = z + 1 := ⟨n - 1, by omega⟩
    have e : y = bh B := by omega
    subst e
    exact ⟨so, si, num, by rw [f_Lines_showWalls_L6, if_pos (nI_le (Nat.le_refl _) (by omega))], h3, h4⟩
  | succ r ih =>
    intro y n so si num h1 h2 h3 h4
    obtain ⟨n, rfl⟩ : ∃ z, n = z + 1 := ⟨n - 1, by omega⟩
    have y8 : y < 8 := by omega
    have l17 := s_layZ y8 8 0 jN num (by omega) (by show 8 < 2000000; omega)
    have lay : f_Lines_lay (nI y) 0 (nI (bw B)) so si num = some (upd so y 0, upd si y (nI (bw B)), fun f => if f / 8 = y ∧ 0 ≤ f % 8 then 0 else num f) := by
      unfold f_Lines_lay
      rw [ev_grdN _ y8 (by decide), ev_grdN _ y8 (by decide), ev_b (x := f_Lines_lay_L17 (nI y) jN 0 num) _ l17, nI_clamp (show y < 2 ^ 31 by omega)]
    obtain ⟨N, n1, n2, n3⟩ := s_shwX h hw y8 (bw B) 0 jN (fun f => if f / 8 = y ∧ 0 ≤ f % 8 then 0 else num f) (by omega) (by show bw B < 2000000; omega) (fun i hi => by omega)
    obtain ⟨S, Z, M, m1, m2, m3⟩ := ih (y + 1) n (upd so y 0) (upd si y (nI (bw B))) N (by omega) (by omega) (fun z hz => by
      by_cases e : z = y
      · subst e; rw [pk_us, pk_us]; exact ⟨rfl, rfl, n2⟩
      · rw [pk_un e, pk_un e]
        obtain ⟨q1, q2, q3⟩ := h3 z (by omega)
        refine ⟨q1, q2, fun i hi => ?_⟩
        rw [n3 _ (by omega), if_neg (by omega)]
        exact q3 i hi) (fun z h5 h6 => by rw [pk_un (by omega)]; exact h4 z (by omega) h6)
    refine ⟨S, Z, M, ?_, m2, m3⟩
    rw [f_Lines_showWalls_L6, if_neg (nI_ge (show y < bh B by omega) (by omega)), ev_b _ lay, un3_ap, ev_b (x := f_Lines_showWalls_L26 (nI y) (nI (bw B)) cwl jN 0 _) _ n1, ev_bnd, nI_1]
    exact m1
theorem s_showWalls {B : Bas} {cwl : Int64} (h : basOk B) (hw : chW B cwl) (so si num : Nat → Int32) : ∃ S Z N, f_Lines_showWalls so si num (nI (bw B)) (nI (bh B)) cwl = some (S, Z, N) ∧ (∀ z, z < bh B → S z = 0 ∧ Z z = nI (bw B) ∧ ∀ i, i < bw B → N (8 * z + i) = bI (bwl B (i + 8 * z))) ∧ (∀ z, bh B ≤ z → z < 8 → S z = -1) := by
  have h8 := h.2.2.2.1
  obtain ⟨S, Z, M, m1, m2, m3⟩ := s_shwY h hw (bh B) 0 jN (fun f => if f < 8 then -1 else so f) si num (by omega) (by show bh B < 2000000; omega) (fun z hz => absurd hz (Nat.not_lt_zero z)) (fun z _ hz => if_pos hz)
  refine ⟨S, Z, M, ?_, m2, m3⟩
  unfold f_Lines_showWalls
  rw [ev_b _ (s_tearAll so), ev_b (x := f_Lines_showWalls_L6 (nI (bw B)) (nI (bh B)) cwl jN 0 _ si num) _ m1, un3_ap]
theorem m_lbwX {B : Bas} {y : Nat} {kwl : Nat → Int32} (h : basOk B) (hw : rfW B kwl) (hy : y < 8) : ∀ (r x n : Nat) (num : Nat → Int32), x + r = 8 → r < n → (∀ i, i < x → i < bw B → num (8 * y + i) = bI (bwl B (i + 8 * y))) → ∃ N, f_BargeBasinModel_linesByWalls_L29 (nI y) (nI (bw B)) kwl n (nI x) num = some N ∧ (∀ i, i < bw B → N (8 * y + i) = bI (bwl B (i + 8 * y))) ∧ (∀ f, f / 8 ≠ y → N f = num f) := by
  have w8 := h.2.1
  intro r
  induction r with
  | zero =>
    intro x n num h1 h2 h3
    obtain ⟨n, rfl⟩ : ∃ z, n = z + 1 := ⟨n - 1, by omega⟩
    have e : x = 8 := by omega
    subst e
    exact ⟨num, by rw [f_BargeBasinModel_linesByWalls_L29, if_pos (show (8 : Int32) ≤ nI 8 by decide)], fun i hi => h3 i (by omega) hi, fun _ _ => rfl⟩
  | succ r ih =>
    intro x n num h1 h2 h3
    obtain ⟨n, rfl⟩ : ∃ z, n = z + 1 := ⟨n - 1, by omega⟩
    have e : (8 : Int32) * nI y + nI x = nI (8 * y + x) := by rw [i8, nI_add]
    have e' : nI x + (8 : Int32) * nI y = nI (x + 8 * y) := by rw [i8, nI_add]
    have le : (nI (bw B) ≤ nI x) = (bw B ≤ x) := nI_leE (by omega) (by omega)
    have st : ∀ v, (x < bw B → v = bI (bwl B (x + 8 * y))) → ∃ N, f_BargeBasinModel_linesByWalls_L29 (nI y) (nI (bw B)) kwl n (nI (x + 1)) (upd num (8 * y + x) v) = some N ∧ (∀ i, i < bw B → N (8 * y + i) = bI (bwl B (i + 8 * y))) ∧ (∀ f, f / 8 ≠ y → N f = num f) := by
      intro v hv
      obtain ⟨N, n1, n2, n3⟩ := ih (x + 1) n (upd num (8 * y + x) v) (by omega) (by omega) (fun i hi hi2 => by
        by_cases z : i = x
        · subst z; rw [pk_us]; exact hv hi2
        · rw [pk_un (by omega)]; exact h3 i (by omega) hi2)
      exact ⟨N, n1, n2, fun f hf => by rw [n3 f hf, pk_un (by omega)]⟩
    rw [f_BargeBasinModel_linesByWalls_L29, if_neg (show ¬ (8 : Int32) ≤ nI x from nI_ge (b := 8) (by omega) (by decide)), e, e']
    simp only [le, ev_grdN _ (show 8 * y + x < 64 by omega) (show 64 < 2 ^ 31 by decide), ev_grdN _ (show x + 8 * y < 64 by omega) (show 64 < 2 ^ 31 by decide), nI_clamp (show 8 * y + x < 2 ^ 31 by omega), nI_clamp (show x + 8 * y < 2 ^ 31 by omega), ev_bnd, nI_1, hw _ (show x + 8 * y < 64 by omega)]
    by_cases c : bw B ≤ x
    · rw [if_pos c]; exact st 0 (fun z => by omega)
    · rw [if_neg c]
      cases eb : bwl B (x + 8 * y) with
      | false => rw [if_pos (show bI false = 0 by decide)]; exact st 0 (fun _ => by rw [eb]; rfl)
      | true => rw [if_neg (show ¬ bI true = 0 by decide)]; exact st 1 (fun _ => by rw [eb]; rfl)
theorem m_lbwY {B : Bas} {kwl : Nat → Int32} (h : basOk B) (hw : rfW B kwl) : ∀ (r y n : Nat) (so si num : Nat → Int32), y + r = bh B → r < n → (∀ z, z < y → so z = 0 ∧ si z = nI (bw B) ∧ ∀ i, i < bw B → num (8 * z + i) = bI (bwl B (i + 8 * z))) → ∃ S Z N, f_BargeBasinModel_linesByWalls_L2 (nI (bw B)) (nI (bh B)) kwl n (nI y) so si num = some (S, Z, N) ∧ (∀ z, z < bh B → S z = 0 ∧ Z z = nI (bw B) ∧ ∀ i, i < bw B → N (8 * z + i) = bI (bwl B (i + 8 * z))) ∧ (∀ z, bh B ≤ z → Z z = si z) := by
  have w8 := h.2.1
  have h8 := h.2.2.2.1
  intro r
  induction r with
  | zero =>
    intro y n so si num h1 h2 h3
    obtain ⟨n, rfl⟩ : ∃ z, n = z + 1 := ⟨n - 1, by omega⟩
    have e : y = bh B := by omega
    subst e
    exact ⟨so, si, num, by rw [f_BargeBasinModel_linesByWalls_L2, if_pos (nI_le (Nat.le_refl _) (by omega))], h3, fun _ _ => rfl⟩
  | succ r ih =>
    intro y n so si num h1 h2 h3
    obtain ⟨n, rfl⟩ : ∃ z, n = z + 1 := ⟨n - 1, by omega⟩
    have y8 : y < 8 := by omega
    obtain ⟨N, n1, n2, n3⟩ := m_lbwX h hw y8 8 0 jN num (by omega) (by show 8 < 2000000; omega) (fun i hi => by omega)
    obtain ⟨S, Z, M, m1, m2, m3⟩ := ih (y + 1) n (upd so y 0) (upd si y (nI (bw B))) N (by omega) (by omega) (fun z hz => by
      by_cases e : z = y
      · subst e; rw [pk_us, pk_us]; exact ⟨rfl, rfl, n2⟩
      · rw [pk_un e, pk_un e]
        obtain ⟨q1, q2, q3⟩ := h3 z (by omega)
        refine ⟨q1, q2, fun i hi => ?_⟩
        rw [n3 _ (by omega)]
        exact q3 i hi)
    refine ⟨S, Z, M, ?_, m2, fun z hz => by rw [m3 z hz, pk_un (by omega)]⟩
    rw [f_BargeBasinModel_linesByWalls_L2, if_neg (nI_ge (show y < bh B by omega) (by omega)), ev_grdN _ y8 (by decide), ev_grdN _ y8 (by decide), ev_b (x := f_BargeBasinModel_linesByWalls_L29 (nI y) (nI (bw B)) kwl jN 0 num) _ n1, ev_bnd, nI_1, nI_clamp (show y < 2 ^ 31 by omega)]
    exact m1
theorem m_linesByWalls {B : Bas} {kwl : Nat → Int32} (h : basOk B) (hw : rfW B kwl) (so si num : Nat → Int32) : ∃ S Z N, f_BargeBasinModel_linesByWalls (nI (bw B)) (nI (bh B)) so si num kwl = some (S, Z, N) ∧ (∀ z, z < bh B → S z = 0 ∧ Z z = nI (bw B) ∧ ∀ i, i < bw B → N (8 * z + i) = bI (bwl B (i + 8 * z))) ∧ (∀ z, bh B ≤ z → Z z = si z) := by
  have h8 := h.2.2.2.1
  obtain ⟨S, Z, M, m1, m2, m3⟩ := m_lbwY h hw (bh B) 0 jN so si num (by omega) (by show bh B < 2000000; omega) (fun z hz => absurd hz (Nat.not_lt_zero z))
  refine ⟨S, Z, M, ?_, m2, m3⟩
  unfold f_BargeBasinModel_linesByWalls
  rw [ev_b (x := f_BargeBasinModel_linesByWalls_L2 (nI (bw B)) (nI (bh B)) kwl jN 0 so si num) _ m1, un3_ap]
theorem byw_ln {B : Bas} {S Z N S' Z' N' : Nat → Int32} (h : basOk B) (ho : ∀ f, f < 64 → (bw B ≤ f % 8 ∨ bh B ≤ f / 8) → bwl B f = false) (h1 : ∀ z, z < bh B → S z = 0 ∧ Z z = nI (bw B) ∧ ∀ i, i < bw B → N (8 * z + i) = bI (bwl B (i + 8 * z))) (h2 : ∀ z, bh B ≤ z → z < 8 → S z = -1) (h3 : ∀ z, z < bh B → S' z = 0 ∧ Z' z = nI (bw B) ∧ ∀ i, i < bw B → N' (8 * z + i) = bI (bwl B (i + 8 * z))) (h4 : ∀ z, bh B ≤ z → z < 8 → Z' z < 0) : lnR B S Z N S' Z' N' := by
  have w8 := h.2.1
  have h8 := h.2.2.2.1
  refine ⟨fun y hy => ?_, fun y x hy hx => ?_, ho, h4⟩
  · by_cases c : y < bh B
    · obtain ⟨a1, a2, a3⟩ := h1 y c
      obtain ⟨b1, b2, b3⟩ := h3 y c
      exact Or.inr ⟨0, bw B, by decide, w8, a1, b1, a2, b2, fun i hi => by rw [a3 i hi, b3 i hi]⟩
    · exact Or.inl ⟨h2 y (by omega) hy, h4 y (by omega) hy⟩
  · obtain ⟨b1, b2, b3⟩ := h3 y hy
    unfold wlL
    rw [b2, if_neg (nI_nn (by omega)), if_neg (nI_ge hx (by omega)), b3 x hx]
    cases bwl B (x + 8 * y) <;> rfl
