/-! The class's slots: open addressing. -/
theorem pigeon : ∀ (N M : Nat) (f : Nat → Nat), (∀ s, s < M → f s < N) → (∀ s t, s < M → t < M → f s = f t → s = t) → M ≤ N
  | 0, M, f, h, _ => by
    cases M with
    | zero => exact Nat.le_refl _
    | succ M => exact absurd (h 0 (by omega)) (by omega)
  | N + 1, M, f, h, hi => by
    by_cases e : ∃ s, s < M ∧ f s = N
    · obtain ⟨s0, hs0, e0⟩ := e
      have := pigeon N (M - 1) (fun s => f (if s < s0 then s else s + 1)) (by
        intro s hs
        have b : (if s < s0 then s else s + 1) < M := by split <;> omega
        have n : (if s < s0 then s else s + 1) ≠ s0 := by split <;> omega
        have h1 := h _ b
        have h2 : f (if s < s0 then s else s + 1) ≠ N := fun z => n (hi _ _ b hs0 (by rw [z, e0]))
        show f (if s < s0 then s else s + 1) < N
        omega) (by
        intro s t hs ht z
        have b : (if s < s0 then s else s + 1) < M := by split <;> omega
        have b2 : (if t < s0 then t else t + 1) < M := by split <;> omega
        have := hi _ _ b b2 z
        by_cases c1 : s < s0 <;> by_cases c2 : t < s0 <;> simp [c1, c2] at this <;> omega)
      omega
    · have := pigeon N M f (by
        intro s hs
        have h1 := h s hs
        have h2 : f s ≠ N := fun z => e ⟨s, hs, z⟩
        omega) hi
      omega
theorem least_ex {p : Nat → Prop} : ∀ {n : Nat}, p n → ∃ t, t ≤ n ∧ p t ∧ ∀ j, j < t → ¬ p j
  | 0, h => ⟨0, Nat.le_refl _, h, fun j hj => by omega⟩
  | n + 1, h => by
    by_cases e : ∃ j, j ≤ n ∧ p j
    · obtain ⟨j, hj, pj⟩ := e
      obtain ⟨t, h1, h2, h3⟩ := least_ex (p := fun i => p i ∧ i ≤ n) (n := j) ⟨pj, hj⟩
      exact ⟨t, by omega, h2.1, fun i hi pi => h3 i hi ⟨pi, by have := h2.2; omega⟩⟩
    · exact ⟨n + 1, Nat.le_refl _, h, fun j hj pj => e ⟨j, by omega, pj⟩⟩
  termination_by n => n
theorem cmpE {x y : Int64} : (lg_cmp x y = 0) = (x = y) := by
  unfold lg_cmp
  by_cases h : x > y
  · rw [if_pos h]
    refine propext ⟨fun e => absurd e (by decide), fun e => ?_⟩
    subst e
    exact absurd h (fun q => Int64.lt_irrefl q)
  · rw [if_neg h]
    by_cases h2 : x = y
    · rw [if_pos h2]; simp [h2]
    · rw [if_neg h2]
      exact propext ⟨fun e => absurd e (by decide), fun e => absurd e h2⟩
def mixI (a b : Int64) : Int64 := ((a * (-7046029254386353131)) ^^^ b) * (-4417276706812531889)
def slot0 (P : Nat → Nat) : Nat := ((jlushr (mixI (lN (eL P)) (lN (eH P))) 50).toInt32).toNatClampNeg
theorem shr50 (x : Int64) : ∃ s, s < 16384 ∧ (jlushr x 50).toInt32 = nI s := by
  obtain ⟨n, hn, e⟩ := wb_of x
  refine ⟨n / 2 ^ 50, by omega, ?_⟩
  subst e
  have : jlushr (lN n) (nI 50) = lN (n / 2 ^ 50) := wb_shr hn (by decide)
  rw [show (50 : Int32) = nI 50 from rfl, this, lN_i]
theorem slot0_lt (P : Nat → Nat) : slot0 P < 16384 ∧ (jlushr (mixI (lN (eL P)) (lN (eH P))) 50).toInt32 = nI (slot0 P) := by
  obtain ⟨s, hs, e⟩ := shr50 (mixI (lN (eL P)) (lN (eH P)))
  unfold slot0
  rw [e, nI_clamp (by omega)]
  exact ⟨hs, rfl⟩
/-- the stands of L in the two rows -/
def csL (L : List (Nat → Nat)) (klow khigh : Nat → Int64) : Prop := ∀ i, (hi : i < L.length) → klow i = lN (eL L[i]) ∧ khigh i = lN (eH L[i])
/-- slots: sl s is a stand's number and one more, or 0 -/
def slO (L : List (Nat → Nat)) (sl sf : Nat → Nat) : Prop :=
  (∀ i, (hi : i < L.length) → sf i < 16384 ∧ sl (sf i) = i + 1) ∧ (∀ s, s < 16384 → sl s ≠ 0 → sl s ≤ L.length ∧ sf (sl s - 1) = s) ∧
  (∀ i, (hi : i < L.length) → ∃ t, t < 16384 ∧ sf i = (slot0 L[i] + t) % 16384 ∧ ∀ j, j < t → sl ((slot0 L[i] + j) % 16384) ≠ 0)
def slA (L : List (Nat → Nat)) (kslots kfor : Nat → Int32) : Prop := ∃ sl sf : Nat → Nat, (∀ s, s < 16384 → kslots s = nI (sl s)) ∧ (∀ i, i < L.length → kfor i = nI (sf i)) ∧ slO L sl sf
def tab (B : Bas) (L : List (Nat → Nat)) (klow khigh : Nat → Int64) (kslots kfor : Nat → Int32) : Prop := L.length ≤ 6000 ∧ (∀ P, P ∈ L → stC B P) ∧ csL L klow khigh ∧ slA L kslots kfor
theorem sl_free {L : List (Nat → Nat)} {sl sf : Nat → Nat} (hl : L.length ≤ 6000) (h : slO L sl sf) : ∃ s, s < 16384 ∧ sl s = 0 := by
  apply Classical.byContradiction
  intro c
  have c2 : ∀ s, s < 16384 → sl s ≠ 0 := fun s hs e => c ⟨s, hs, e⟩
  have := pigeon 6000 16384 (fun s => sl s - 1) (by
    intro s hs
    have := (h.2.1 s hs (c2 s hs)).1
    have := c2 s hs
    show sl s - 1 < 6000
    omega) (by
    intro s t hs ht e
    have h1 := (h.2.1 s hs (c2 s hs)).2
    have h2 := (h.2.1 t ht (c2 t ht)).2
    have e' : sl s - 1 = sl t - 1 := e
    rw [← h1, ← h2, e'])
  omega
theorem e_eq {B : Bas} {P Q : Nat → Nat} (h : basOk B) (hp : stC B P) (hq : stC B Q) : (lN (eL P) = lN (eL Q) ∧ lN (eH P) = lN (eH Q)) ↔ P = Q := by
  constructor
  · rintro ⟨h1, h2⟩
    have p6 := stC_64 h hp
    have q6 := stC_64 h hq
    have a1 := eL_lt p6; have a2 := eL_lt q6; have a3 := eH_lt p6; have a4 := eH_lt q6
    have e1 := (pk_lEQ (by omega) (by omega)).mp h1
    have e2 := (pk_lEQ (by omega) (by omega)).mp h2
    refine stC_ext hp.2 hq.2 fun b hb => e_inj p6 q6 e1 e2 b ?_
    have := h.2.2.2.2.1
    omega
  · rintro rfl; exact ⟨rfl, rfl⟩
theorem s_slotOf {B : Bas} {L : List (Nat → Nat)} {v : Nat → Nat} {klow khigh : Nat → Int64} {kslots : Nat → Int32} {sl sf : Nat → Nat} (h : basOk B) (hl : L.length ≤ 6000) (hL : ∀ P, P ∈ L → stC B P) (hv : stC B v) (hcs : csL L klow khigh) (hk : ∀ s, s < 16384 → kslots s = nI (sl s)) (ho : slO L sl sf) :
    ∃ s, s < 16384 ∧ f_Search_slotOf (lN (eL v)) (lN (eH v)) klow khigh kslots = some (nI s) ∧
      ((∃ i, ∃ hi : i < L.length, L[i] = v ∧ sl s = i + 1) ∨ ((¬ v ∈ L) ∧ sl s = 0 ∧ ∃ t, t < 16384 ∧ s = (slot0 v + t) % 16384 ∧ ∀ j, j < t → sl ((slot0 v + j) % 16384) ≠ 0)) := by
  obtain ⟨z0, z1⟩ := slot0_lt v
  obtain ⟨sz, hz, ez⟩ := sl_free hl ho
  have m16 : ∀ x, x % 16384 < 16384 := fun x => Nat.mod_lt _ (by decide)
  obtain ⟨t, ht1, ht2, ht3⟩ := least_ex (p := fun t => sl ((slot0 v + t) % 16384) = 0 ∨ ∃ hi : sl ((slot0 v + t) % 16384) - 1 < L.length, L[sl ((slot0 v + t) % 16384) - 1] = v) (n := (sz + 16384 - slot0 v) % 16384) (Or.inl (by
    have : (slot0 v + (sz + 16384 - slot0 v) % 16384) % 16384 = sz := by omega
    rw [this]; exact ez))
  have t16 : t < 16384 := Nat.lt_of_le_of_lt ht1 (m16 _)
  have nx : ∀ x, x < 16384 → (nI x + 1) &&& 16383 = nI ((x + 1) % 16384) := by
    intro x hx
    rw [nI_1]
    exact pk_andN (n := x + 1) (by omega) 14 (by decide)
  have loop : ∀ (r u n : Nat), u + r = t → r < n → f_Search_slotOf_L24 (lN (eL v)) (lN (eH v)) klow khigh kslots n (nI ((slot0 v + u) % 16384)) (nI u) = some (.inl (nI ((slot0 v + t) % 16384))) := by
    intro r
    induction r with
    | zero =>
      intro u n h1 h2
      obtain ⟨n, rfl⟩ : ∃ z, n = z + 1 := ⟨n - 1, by omega⟩
      have e : u = t := by omega
      subst e
      have s16 := m16 (slot0 v + u)
      rw [f_Search_slotOf_L24, if_neg (show ¬ (16384 : Int32) ≤ nI u from nI_ge (b := 16384) t16 (by decide)), ev_grdN _ s16 (by decide), ev_bnd, nI_clamp (by omega), hk _ s16]
      rcases ht2 with q | ⟨hi, q⟩
      · rw [q, if_pos (by decide)]
      · by_cases q0 : sl ((slot0 v + u) % 16384) = 0
        · rw [q0, if_pos (by decide)]
        · obtain ⟨m, em⟩ : ∃ m, sl ((slot0 v + u) % 16384) = m + 1 := ⟨sl ((slot0 v + u) % 16384) - 1, by omega⟩
          simp only [em, Nat.add_sub_cancel] at hi q
          obtain ⟨c1, c2⟩ := hcs m hi
          rw [em, nI_pred, if_neg (nI_pos (by omega)), ev_grdN _ (show m < 6000 by omega) (by decide), ev_grdN _ (show m < 6000 by omega) (by decide), nI_clamp (by omega), c1, c2, q]
          simp only [cmpE, if_true]
    | succ r ih =>
      intro u n h1 h2
      obtain ⟨n, rfl⟩ : ∃ z, n = z + 1 := ⟨n - 1, by omega⟩
      have s16 := m16 (slot0 v + u)
      have np := ht3 u (by omega)
      rw [f_Search_slotOf_L24, if_neg (show ¬ (16384 : Int32) ≤ nI u from nI_ge (b := 16384) (by omega) (by decide)), ev_grdN _ s16 (by decide), ev_bnd, nI_clamp (by omega), hk _ s16]
      have q0 : sl ((slot0 v + u) % 16384) ≠ 0 := fun z => np (Or.inl z)
      obtain ⟨m, em⟩ : ∃ m, sl ((slot0 v + u) % 16384) = m + 1 := ⟨sl ((slot0 v + u) % 16384) - 1, by omega⟩
      have hm : m < L.length := by
        have := (ho.2.1 _ s16 q0).1
        omega
      obtain ⟨c1, c2⟩ := hcs m hm
      have ne : ¬ L[m] = v := fun z => np (Or.inr ⟨by rw [em]; exact hm, by simp only [em, Nat.add_sub_cancel]; exact z⟩)
      have step := ih (u + 1) n (by omega) (by omega)
      have e2 : ((slot0 v + u) % 16384 + 1) % 16384 = (slot0 v + (u + 1)) % 16384 := by omega
      rw [em, nI_pred, if_neg (nI_pos (by omega)), ev_grdN _ (show m < 6000 by omega) (by decide), ev_grdN _ (show m < 6000 by omega) (by decide), nI_clamp (by omega), c1, c2, nx _ s16, e2]
      simp only [cmpE, ev_bnd, nI_1]
      by_cases y1 : lN (eL L[m]) = lN (eL v)
      · rw [if_pos y1, if_neg (fun y2 => ne ((e_eq h (hL _ (List.getElem_mem hm)) hv).mp ⟨y1, y2⟩)), step]
      · rw [if_neg y1, step]
  refine ⟨(slot0 v + t) % 16384, m16 _, ?_, ?_⟩
  · unfold f_Search_slotOf
    have e0 := loop t 0 jN (by omega) (by show t < 2000000; omega)
    rw [Nat.add_zero, Nat.mod_eq_of_lt z0] at e0
    rw [ev_bnd, ev_bnd, show ((lN (eL v) * (-7046029254386353131)) ^^^ lN (eH v)) * (-4417276706812531889) = mixI (lN (eL v)) (lN (eH v)) from rfl, z1, ev_b _ (show f_Search_slotOf_L24 (lN (eL v)) (lN (eH v)) klow khigh kslots jN (nI (slot0 v)) 0 = _ from e0)]
    rfl
  · by_cases q0 : sl ((slot0 v + t) % 16384) = 0
    · refine Or.inr ⟨?_, q0, t, t16, rfl, fun j hj z => ht3 j hj (Or.inl z)⟩
      intro hm
      obtain ⟨i, hi, ei⟩ := List.getElem_of_mem hm
      obtain ⟨u, hu, eu, fu⟩ := ho.2.2 i hi
      rw [ei] at eu fu
      have hsi := (ho.1 i hi).2
      rw [eu] at hsi
      by_cases ut : u < t
      · exact ht3 u ut (Or.inr ⟨by rw [hsi]; omega, by simp only [hsi, Nat.add_sub_cancel]; exact ei⟩)
      · by_cases ut2 : u = t
        · subst ut2; rw [q0] at hsi; omega
        · exact fu t (by omega) q0
    · rcases ht2 with q | ⟨hi, q⟩
      · exact absurd q q0
      · exact Or.inl ⟨_, hi, q, by omega⟩
