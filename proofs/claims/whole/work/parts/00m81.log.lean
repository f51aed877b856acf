/-! The moves that were done, and those that were undone: the class's ring, the reference's rows. -/
def cT (T : List Nat) (k : Nat) : Nat := T.getD k 0
theorem cT_at {T : List Nat} {k : Nat} (h : k < T.length) : cT T k = T[k] := by
  unfold cT
  rw [List.getD_eq_getElem?_getD, List.getElem?_eq_getElem h]; rfl
def lgT (B : Bas) (P : Nat → Nat) (T : List Nat) (S : Nat → Nat → Nat) (D : Nat) : Prop :=
  T.length ≤ 60 ∧ D ≤ T.length ∧ S D = P ∧ (∀ k, k ≤ T.length → stC B (S k)) ∧ ∀ k, k < T.length → cT T k < 400 ∧ cT T k / 32 < bn B ∧ S (k + 1) = updN (S k) (cT T k / 32) (S (k + 1) (cT T k / 32)) ∧ ((S (k + 1) (cT T k / 32) : Nat) : Int) = (S k (cT T k / 32) : Int) + (cT T k % 8 : Nat) * stI (cT T k / 8 % 4)
def lgC (T : List Nat) (D : Nat) (kf kd ku : Int32) (km : Nat → Int32) : Prop := ∃ f, kf = nI f ∧ f < 60 ∧ kd = nI D ∧ ku = nI (T.length - D) ∧ ∀ k, k < T.length → km ((f + k) % 60) = nI (cT T k)
def lgM (T : List Nat) (S : Nat → Nat → Nat) (D : Nat) (um rm : Int32) (ub uf ut rb rf rt : Nat → Int32) : Prop := um = nI D ∧ rm = nI (T.length - D) ∧
  (∀ k, k < D → ub k = nI (cT T k / 32) ∧ uf k = nI (S k (cT T k / 32)) ∧ ut k = nI (S (k + 1) (cT T k / 32))) ∧
  (∀ j, j < T.length - D → rb j = nI (cT T (T.length - 1 - j) / 32) ∧ rf j = nI (S (T.length - 1 - j) (cT T (T.length - 1 - j) / 32)) ∧ rt j = nI (S (T.length - j) (cT T (T.length - 1 - j) / 32)))
theorem step32 : ∀ p, p < 64 → ∀ s, s < 8 → ∀ d, d < 4 → nI p + nI s * sv_STEP d = Int32.ofInt ((p : Int) + s * stI d) ∧ nI p + (- nI s) * sv_STEP d = Int32.ofInt ((p : Int) - s * stI d) := by decide +kernel
theorem ofInt_nI (q : Nat) : Int32.ofInt (q : Int) = nI q := Int32.ofInt_eq_ofNat
theorem rem60 {x : Nat} (h : x < 2 ^ 31) : nI x - nI x / 60 * 60 = nI (x % 60) := pk_rem (d := 60) h (by decide) (by decide)
/-- the list and the stands with one move more -/
def nxT (T : List Nat) (D c : Nat) : List Nat := if D = 60 then T.drop 1 ++ [c] else T.take D ++ [c]
def nxS (S : Nat → Nat → Nat) (D : Nat) (Q : Nat → Nat) : Nat → Nat → Nat := fun k => if D = 60 then (if k < 60 then S (k + 1) else Q) else (if k ≤ D then S k else Q)
def nxD (D : Nat) : Nat := if D = 60 then 60 else D + 1
theorem nxT_len {T : List Nat} {D c : Nat} (h1 : T.length ≤ 60) (h2 : D ≤ T.length) : (nxT T D c).length = nxD D := by
  unfold nxT nxD
  by_cases e : D = 60
  · rw [if_pos e, if_pos e, List.length_append, List.length_drop, List.length_singleton]; omega
  · rw [if_neg e, if_neg e, List.length_append, List.length_take, List.length_singleton]; omega
theorem cT_app {l : List Nat} {c k : Nat} : cT (l ++ [c]) k = if k < l.length then cT l k else if k = l.length then c else 0 := by
  by_cases h : k < l.length
  · rw [if_pos h, cT_at h, cT_at (by rw [List.length_append]; omega), List.getElem_append_left h]
  · rw [if_neg h]
    by_cases e : k = l.length
    · rw [if_pos e]
      subst e
      rw [cT_at (by simp)]
      simp
    · rw [if_neg e]
      unfold cT
      rw [List.getD_eq_getElem?_getD, List.getElem?_eq_none (by rw [List.length_append, List.length_singleton]; omega)]; rfl
theorem nxT_at {T : List Nat} {D c k : Nat} (h1 : T.length ≤ 60) (h2 : D ≤ T.length) (hk : k < nxD D) : cT (nxT T D c) k = if D = 60 then (if k < 59 then cT T (k + 1) else c) else (if k < D then cT T k else c) := by
  unfold nxT
  unfold nxD at hk
  by_cases e : D = 60
  · rw [if_pos e] at hk
    rw [if_pos e, if_pos e, cT_app, List.length_drop]
    by_cases z : k < 59
    · rw [if_pos (by omega), if_pos z, cT_at (by rw [List.length_drop]; omega), cT_at (by omega), List.getElem_drop]
      congr 1
      omega
    · rw [if_neg (by omega), if_pos (by omega), if_neg z]
  · rw [if_neg e] at hk
    rw [if_neg e, if_neg e, cT_app, List.length_take]
    by_cases z : k < D
    · rw [if_pos (by omega), if_pos z, cT_at (by rw [List.length_take]; omega), cT_at (by omega), List.getElem_take]
    · rw [if_neg (by omega), if_pos (by omega), if_neg z]
theorem nx_lgT {B : Bas} {P Q : Nat → Nat} {T : List Nat} {S : Nat → Nat → Nat} {D c : Nat} (h : lgT B P T S D) (hc : c < 400) (hb : c / 32 < bn B) (hQ : stC B Q) (hu : Q = updN P (c / 32) (Q (c / 32))) (hq : ((Q (c / 32) : Nat) : Int) = (P (c / 32) : Int) + (c % 8 : Nat) * stI (c / 8 % 4)) : lgT B Q (nxT T D c) (nxS S D Q) (nxD D) := by
  obtain ⟨h1, h2, h3, h4, h5⟩ := h
  have len := nxT_len (c := c) h1 h2
  refine ⟨?_, ?_, ?_, ?_, ?_⟩
  · rw [len]; unfold nxD; split <;> omega
  · rw [len]; exact Nat.le_refl _
  · unfold nxS nxD
    by_cases e : D = 60
    · rw [if_pos e, if_pos e, if_neg (by decide)]
    · rw [if_neg e, if_neg e, if_neg (by omega)]
  · intro k hk
    rw [len] at hk
    unfold nxD at hk
    unfold nxS
    by_cases e : D = 60
    · rw [if_pos e] at hk ⊢
      by_cases z : k < 60
      · rw [if_pos z]; exact h4 (k + 1) (by omega)
      · rw [if_neg z]; exact hQ
    · rw [if_neg e] at hk ⊢
      by_cases z : k ≤ D
      · rw [if_pos z]; exact h4 k (by omega)
      · rw [if_neg z]; exact hQ
  · intro k hk
    rw [len] at hk
    rw [nxT_at h1 h2 hk]
    unfold nxD at hk
    unfold nxS
    by_cases e : D = 60
    · rw [if_pos e] at hk
      simp only [if_pos e]
      by_cases z : k < 59
      · rw [if_pos z, if_pos (show k + 1 < 60 by omega), if_pos (show k < 60 by omega)]
        exact h5 (k + 1) (by omega)
      · have hk59 : k = 59 := by omega
        subst hk59
        rw [if_neg z, if_neg (show ¬ 59 + 1 < 60 by decide), if_pos (show 59 < 60 by decide)]
        have e2 : S (59 + 1) = P := by rw [← h3, e]
        rw [e2]
        exact ⟨hc, hb, hu, hq⟩
    · rw [if_neg e] at hk
      simp only [if_neg e]
      by_cases z : k < D
      · rw [if_pos z, if_pos (show k + 1 ≤ D by omega), if_pos (show k ≤ D by omega)]
        exact h5 k (by omega)
      · have hkD : k = D := by omega
        subst hkD
        rw [if_neg z, if_neg (show ¬ k + 1 ≤ k by omega), if_pos (Nat.le_refl _), h3]
        exact ⟨hc, hb, hu, hq⟩
theorem nx_lgC {T : List Nat} {D c : Nat} {kf kd ku : Int32} {km : Nat → Int32} (h1 : T.length ≤ 60) (h2 : D ≤ T.length) (h : lgC T D kf kd ku km) : ∃ kf' kd' ku' km', f_Log_note (nI c) kf kd ku km = some (kf', kd', ku', km') ∧ lgC (nxT T D c) (nxD D) kf' kd' ku' km' := by
  obtain ⟨f, e1, f60, e2, e3, e4⟩ := h
  subst e1; subst e2
  have len := nxT_len (c := c) h1 h2
  unfold f_Log_note
  have J : ∀ g d, g < 60 → d < 60 → f_Log_note_J37 (nI c) (nI g) (nI d) 0 km = some (nI g, nI (d + 1), 0, upd km ((g + d) % 60) (nI c)) := by
    intro g d hg hd
    unfold f_Log_note_J37
    rw [ev_div _ (by decide), nI_add, rem60 (by omega), ev_grdN _ (show (g + d) % 60 < 60 by omega) (by decide), ev_bnd, nI_1, nI_clamp (by omega)]
  by_cases e : D = 60
  · subst e
    rw [if_pos (show nI 60 = 60 from rfl), ev_div _ (by decide), ev_bnd, ev_bnd, nI_1, rem60 (by omega), show nI 60 - 1 = nI 59 by decide, J _ _ (by omega) (by decide)]
    refine ⟨_, _, _, _, rfl, (f + 1) % 60, rfl, by omega, rfl, by rw [len]; rfl, fun k hk => ?_⟩
    rw [len] at hk
    rw [nxT_at h1 h2 hk, if_pos rfl]
    have hk60 : k < 60 := hk
    by_cases z : k < 59
    · rw [if_pos z, pk_un (by omega), show ((f + 1) % 60 + k) % 60 = (f + (k + 1)) % 60 by omega]
      exact e4 (k + 1) (by omega)
    · rw [if_neg z, show k = 59 by omega, pk_us]
  · have D60 : D < 60 := by omega
    have ne : ¬ nI D = 60 := fun z => e ((nI_eq (b := 60) (by omega) (by decide)).mp z)
    rw [if_neg ne, J f D f60 D60]
    refine ⟨_, _, _, _, rfl, f, rfl, f60, by unfold nxD; rw [if_neg e], by rw [len]; simp; rfl, fun k hk => ?_⟩
    rw [len] at hk
    rw [nxT_at h1 h2 hk, if_neg e]
    have hk' : k < D + 1 := by unfold nxD at hk; rw [if_neg e] at hk; exact hk
    by_cases z : k < D
    · rw [if_pos z, pk_un (by omega)]
      exact e4 k (by omega)
    · rw [if_neg z, show k = D by omega, pk_us]
