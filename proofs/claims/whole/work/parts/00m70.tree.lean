/-! The tree of the first ways: the reference's plan is the first plan. -/
def trOk (B : Bas) (most : Nat) (F : List (Nat → Nat)) (par mno dep : Nat → Nat) : Prop :=
  F.Nodup ∧ clsd B most F ∧ dep 0 = 0 ∧ ∀ i, 0 < i → i < F.length → par i < i ∧ mno i ∈ mvs B (gt F (par i)) most false ∧ gt F i = tgt (gt F (par i)) (mno i) ∧ dep i = dep (par i) + 1 ∧
    ∀ s c, s < F.length → c ∈ mvs B (gt F s) most false → (s < par i ∨ (s = par i ∧ c < mno i)) → ∃ i', i' < i ∧ gt F i' = tgt (gt F s) c
theorem tr_of {B : Bas} {most : Nat} {F : List (Nat → Nat)} {par mno dep : Nat → Nat} {kdp kpr kbb kby kbs : Nat → Int32} (hn : F.Nodup) (hc : clsd B most F) (h : tR F (prA B most F F.length) par mno dep kdp kpr kbb kby kbs) : trOk B most F par mno dep := by
  refine ⟨hn, hc, h.1, fun i h0 hi => ?_⟩
  obtain ⟨a1, a2, a3, a4, a5, a6, a7, a8, a9⟩ := h.2.2 i h0 hi
  have m := prA_mvs a1
  simp only at m
  refine ⟨a2, m, a7, a8, fun s c hs hcm hl => ?_⟩
  have l : lexP (s, c) (par i, mno i) := by
    unfold lexP
    simp only
    exact hl
  have r := a9 (s, c) (prA_mem hs hcm) l
  simp only at r
  exact r
theorem gt_inj {F : List (Nat → Nat)} (hn : F.Nodup) {i j : Nat} (hi : i < F.length) (hj : j < F.length) (e : gt F i = gt F j) : i = j := nd_inj hn hi hj (by rw [← gt_at hi, ← gt_at hj, e])
theorem tr_par {B : Bas} {most : Nat} {F : List (Nat → Nat)} {par mno dep : Nat → Nat} (h : trOk B most F par mno dep) {i j : Nat} (h0 : 0 < i) (hij : i ≤ j) (hj : j < F.length) : par i ≤ par j := by
  obtain ⟨hn, hc, d0, tr⟩ := h
  obtain ⟨a1, a2, a3, a4, a5⟩ := tr i h0 (by omega)
  obtain ⟨b1, b2, b3, b4, b5⟩ := tr j (by omega) hj
  apply Nat.le_of_not_lt
  intro z
  obtain ⟨i', q1, q2⟩ := a5 (par j) (mno j) (by omega) b2 (Or.inl z)
  rw [← b3] at q2
  have := gt_inj hn (show i' < F.length by omega) hj q2
  omega
theorem tr_mono {B : Bas} {most : Nat} {F : List (Nat → Nat)} {par mno dep : Nat → Nat} (h : trOk B most F par mno dep) : ∀ j, j < F.length → ∀ i, i ≤ j → dep i ≤ dep j := by
  intro j
  induction j using Nat.strongRecOn with
  | ind j ih =>
    intro hj i hij
    by_cases e : i = 0
    · subst e; rw [h.2.2.1]; exact Nat.zero_le _
    · obtain ⟨b1, -, -, b4, -⟩ := h.2.2.2 j (by omega) hj
      obtain ⟨-, -, -, a4, -⟩ := h.2.2.2 i (by omega) (by omega)
      have p := tr_par h (show 0 < i by omega) hij hj
      have := ih (par j) b1 (by omega) (par i) p
      omega
theorem tr_edge {B : Bas} {most : Nat} {F : List (Nat → Nat)} {par mno dep : Nat → Nat} (h : trOk B most F par mno dep) {u a c : Nat} (hu : u < F.length) (ha : a < F.length) (hc : c ∈ mvs B (gt F u) most false) (e : gt F a = tgt (gt F u) c) : dep a ≤ dep u + 1 := by
  by_cases z : a = 0
  · subst z; rw [h.2.2.1]; omega
  · obtain ⟨b1, -, -, b4, b5⟩ := h.2.2.2 a (by omega) ha
    by_cases y : par a ≤ u
    · have := tr_mono h u hu (par a) y
      omega
    · obtain ⟨i', q1, q2⟩ := b5 u c hu hc (Or.inl (by omega))
      rw [← e] at q2
      have := gt_inj h.1 (show i' < F.length by omega) ha q2
      omega
theorem tr_can {B : Bas} {most : Nat} {F : List (Nat → Nat)} {par mno dep : Nat → Nat} (h : trOk B most F par mno dep) : ∀ k u, u < F.length → canD B most k (gt F u) → ∃ a, a < F.length ∧ freedA B (gt F a) = true ∧ dep a ≤ dep u + k
  | 0, u, hu, hc => ⟨u, hu, hc, Nat.le_refl _⟩
  | k + 1, u, hu, hc => by
    obtain ⟨c, h1, h2⟩ := hc
    obtain ⟨a, ha, ea⟩ := List.getElem_of_mem (h.2.1 _ (gt_mem hu) c h1)
    rw [← gt_at ha] at ea
    rw [← ea] at h2
    obtain ⟨x, x1, x2, x3⟩ := tr_can h k a ha h2
    have := tr_edge h hu ha h1 ea
    exact ⟨x, x1, x2, by omega⟩
/-- the ancestors of z -/
def upT (par : Nat → Nat) (z : Nat) : Nat → Nat
  | 0 => z
  | m + 1 => par (upT par z m)
def csT (par mno : Nat → Nat) (z : Nat) : Nat → List Nat
  | 0 => []
  | m + 1 => mno (upT par z m) :: csT par mno z m
theorem up_ok {B : Bas} {most : Nat} {F : List (Nat → Nat)} {par mno dep : Nat → Nat} (h : trOk B most F par mno dep) {z : Nat} (hz : z < F.length) : ∀ m, m ≤ dep z → upT par z m < F.length ∧ dep (upT par z m) + m = dep z
  | 0, _ => ⟨hz, rfl⟩
  | m + 1, hm => by
    obtain ⟨a, b⟩ := up_ok h hz m (by omega)
    have p : 0 < upT par z m := by
      apply Nat.pos_of_ne_zero
      intro e
      rw [e, h.2.2.1] at b
      omega
    obtain ⟨q1, -, -, q4, -⟩ := h.2.2.2 _ p a
    show par (upT par z m) < F.length ∧ dep (par (upT par z m)) + (m + 1) = dep z
    omega
theorem up_pos {B : Bas} {most : Nat} {F : List (Nat → Nat)} {par mno dep : Nat → Nat} (h : trOk B most F par mno dep) {z : Nat} (hz : z < F.length) {m : Nat} (hm : m < dep z) : 0 < upT par z m := by
  obtain ⟨a, b⟩ := up_ok h hz m (by omega)
  apply Nat.pos_of_ne_zero
  intro e
  rw [e, h.2.2.1] at b
  omega
/-- one that stands ahead of an ancestor, as far from a freed one, has a freed one ahead of z -/
theorem up_lt {B : Bas} {most : Nat} {F : List (Nat → Nat)} {par mno dep : Nat → Nat} (h : trOk B most F par mno dep) {z : Nat} (hz : z < F.length) : ∀ m, m ≤ dep z → ∀ t, t < upT par z m → canD B most m (gt F t) → ∃ a, a < z ∧ freedA B (gt F a) = true
  | 0, _, t, ht, hc => ⟨t, ht, hc⟩
  | m + 1, hm, t, ht, hc => by
    obtain ⟨c, h1, h2⟩ := hc
    obtain ⟨a, b⟩ := up_ok h hz m (by omega)
    have p := up_pos h hz (show m < dep z by omega)
    obtain ⟨q1, q2, q3, q4, q5⟩ := h.2.2.2 _ p a
    have ht' : t < par (upT par z m) := ht
    obtain ⟨i', r1, r2⟩ := q5 t c (by omega) h1 (Or.inl ht')
    rw [← r2] at h2
    exact up_lt h hz m (by omega) i' r1 h2
theorem tr_plan {B : Bas} {most : Nat} {F : List (Nat → Nat)} {par mno dep : Nat → Nat} (h : trOk B most F par mno dep) {z : Nat} (hz : z < F.length) (hf : freedA B (gt F z) = true) (hfirst : ∀ a, a < z → freedA B (gt F a) = false) :
    ∀ m, m ≤ dep z → isD B most (gt F (upT par z m)) m ∧ gPath B most m (gt F (upT par z m)) (csT par mno z m) := by
  have low : ∀ m, m ≤ dep z → ∀ j, j < m → ¬ canD B most j (gt F (upT par z m)) := by
    intro m hm j hj hc
    obtain ⟨a, b⟩ := up_ok h hz m hm
    obtain ⟨x, x1, x2, x3⟩ := tr_can h j _ a hc
    have : z ≤ x := by
      apply Nat.le_of_not_lt
      intro y
      rw [hfirst x y] at x2
      cases x2
    have := tr_mono h x x1 z this
    omega
  intro m
  induction m with
  | zero =>
    intro _
    exact ⟨⟨hf, fun j hj => by omega⟩, rfl⟩
  | succ m ih =>
    intro hm
    obtain ⟨i1, i2⟩ := ih (by omega)
    obtain ⟨a, b⟩ := up_ok h hz m (by omega)
    have p := up_pos h hz (show m < dep z by omega)
    obtain ⟨q1, q2, q3, q4, q5⟩ := h.2.2.2 _ p a
    have us : upT par z (m + 1) = par (upT par z m) := rfl
    have lw := low (m + 1) hm
    rw [us] at lw ⊢
    refine ⟨⟨⟨mno (upT par z m), q2, by rw [← q3]; exact i1.1⟩, lw⟩, ?_⟩
    refine ⟨mno (upT par z m), csT par mno z m, rfl, q2, by rw [← q3]; exact i1, ?_, by rw [← q3]; exact i2⟩
    intro c' hc' lt hd
    obtain ⟨i', r1, r2⟩ := q5 (par (upT par z m)) c' (by omega) hc' (Or.inr ⟨rfl, lt⟩)
    have hd1 : canD B most m (tgt (gt F (par (upT par z m))) c') := hd.1
    rw [← r2] at hd1
    obtain ⟨x, x1, x2⟩ := up_lt h hz m (by omega) i' r1 hd1
    rw [hfirst x x1] at x2
    cases x2
theorem up_root {B : Bas} {most : Nat} {F : List (Nat → Nat)} {par mno dep : Nat → Nat} (h : trOk B most F par mno dep) {z : Nat} (hz : z < F.length) : upT par z (dep z) = 0 := by
  obtain ⟨a, b⟩ := up_ok h hz (dep z) (Nat.le_refl _)
  apply Classical.byContradiction
  intro e
  obtain ⟨-, -, -, q4, -⟩ := h.2.2.2 _ (Nat.pos_of_ne_zero e) a
  omega
theorem csT_len {par mno : Nat → Nat} {z : Nat} : ∀ m, (csT par mno z m).length = m
  | 0 => rfl
  | m + 1 => by unfold csT; rw [List.length_cons, csT_len m]
theorem csT_at {par mno : Nat → Nat} {z : Nat} : ∀ m k, (hk : k < (csT par mno z m).length) → (csT par mno z m)[k] = mno (upT par z (m - 1 - k))
  | 0, k, hk => by cases hk
  | m + 1, 0, hk => rfl
  | m + 1, k + 1, hk => by
    have l := csT_len (par := par) (mno := mno) (z := z) m
    have hk' : k < (csT par mno z m).length := by
      have : k + 1 < (csT par mno z m).length + 1 := hk
      omega
    have := csT_at m k hk'
    show (csT par mno z m)[k] = _
    rw [this]
    have e : m - 1 - k = m + 1 - 1 - (k + 1) := by omega
    rw [e]
/-- no freed stand at all: no distance -/
theorem tr_none {B : Bas} {most : Nat} {F : List (Nat → Nat)} {par mno dep : Nat → Nat} (h : trOk B most F par mno dep) (hno : ∀ a, a < F.length → freedA B (gt F a) = false) {u k : Nat} (hu : u < F.length) : ¬ canD B most k (gt F u) := by
  intro hc
  obtain ⟨x, x1, x2, -⟩ := tr_can h k u hu hc
  rw [hno x x1] at x2
  cases x2
