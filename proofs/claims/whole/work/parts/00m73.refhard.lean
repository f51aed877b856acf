/-! hardest of the reference: distances round by round. -/
theorem lvD_all {N : Nat} {edge : Nat → Nat → Prop} {D : Nat → Option Nat} (hb : ∀ u k, u < N → D u = some (k + 1) → ∃ a, a < N ∧ edge u a ∧ D a = some k) : ∀ d u, u < N → D u = some d → ∀ j, j ≤ d → ∃ a, a < N ∧ D a = some j
  | 0, u, hu, e, j, hj => ⟨u, hu, by rw [show j = 0 by omega]; exact e⟩
  | d + 1, u, hu, e, j, hj => by
    by_cases z : j = d + 1
    · exact ⟨u, hu, by rw [z]; exact e⟩
    · obtain ⟨a, h1, -, h3⟩ := hb u d hu e
      exact lvD_all hb d a h1 h3 j (by omega)
theorem lvD_lt {N : Nat} {edge : Nat → Nat → Prop} {D : Nat → Option Nat} (hb : ∀ u k, u < N → D u = some (k + 1) → ∃ a, a < N ∧ edge u a ∧ D a = some k) {d u : Nat} (hu : u < N) (e : D u = some d) : d < N := by
  have ex := lvD_all hb d u hu e
  have cl : ∃ f : Nat → Nat, ∀ j, j ≤ d → f j < N ∧ D (f j) = some j := by
    refine ⟨fun j => @dite _ (j ≤ d) (Classical.propDecidable _) (fun h => Classical.choose (ex j h)) (fun _ => 0), fun j hj => ?_⟩
    have : (@dite _ (j ≤ d) (Classical.propDecidable _) (fun h => Classical.choose (ex j h)) (fun _ => 0)) = Classical.choose (ex j hj) := dif_pos hj
    simp only [this]
    exact Classical.choose_spec (ex j hj)
  obtain ⟨f, hf⟩ := cl
  have := pigeon N (d + 1) f (fun s hs => (hf s (by omega)).1) (by
    intro s t hs ht e
    have a1 := (hf s (by omega)).2
    have a2 := (hf t (by omega)).2
    rw [e, a2] at a1
    exact (Option.some.inj a1).symm)
  omega
/-- the state as round d begins -/
def rdI (N : Nat) (edge : Nat → Nat → Prop) (fr : Nat → Bool) (D : Nat → Option Nat) (d : Nat) : Prop :=
  (∀ u k, u < N → D u = some k → k < d) ∧ (∀ u, u < N → (D u = some 0 ↔ fr u = true)) ∧ (∀ u k, u < N → D u = some (k + 1) → ∃ a, a < N ∧ edge u a ∧ D a = some k) ∧ (∀ u a k, u < N → a < N → k + 1 < d → edge u a → D a = some k → ∃ k', k' ≤ k + 1 ∧ D u = some k')
def exR (N : Nat) (edge : Nat → Nat → Prop) (D : Nat → Option Nat) (d u : Nat) : Prop := ∃ a, a < N ∧ edge u a ∧ D a = some (d - 1)
noncomputable def rnd (N : Nat) (edge : Nat → Nat → Prop) (D : Nat → Option Nat) (d u : Nat) : Nat → Option Nat := fun v => @ite _ (v < u ∧ D v = none ∧ exR N edge D d v) (Classical.propDecidable _) (some d) (D v)
theorem rnd_n {N : Nat} {edge : Nat → Nat → Prop} {D : Nat → Option Nat} {d u v k : Nat} (h : D v = some k) : rnd N edge D d u v = some k := by
  unfold rnd
  rw [if_neg (fun z => by rw [h] at z; cases z.2.1), h]
theorem rnd_lt {N : Nat} {edge : Nat → Nat → Prop} {D : Nat → Option Nat} {d u v k : Nat} (hk : k ≠ d) : rnd N edge D d u v = some k ↔ D v = some k := by
  unfold rnd
  by_cases c : v < u ∧ D v = none ∧ exR N edge D d v
  · rw [if_pos c]
    constructor
    · intro e; exact absurd (Option.some.inj e).symm hk
    · intro e; rw [e] at c; cases c.2.1
  · rw [if_neg c]
theorem rd_next {N : Nat} {edge : Nat → Nat → Prop} {fr : Nat → Bool} {D : Nat → Option Nat} {d : Nat} (hd : 1 ≤ d) (h : rdI N edge fr D d) : rdI N edge fr (rnd N edge D d N) (d + 1) := by
  obtain ⟨h1, h2, h3, h4⟩ := h
  refine ⟨?_, ?_, ?_, ?_⟩
  · intro u k hu e
    by_cases z : k = d
    · omega
    · have := h1 u k hu ((rnd_lt z).mp e); omega
  · intro u hu
    rw [rnd_lt (by omega)]
    exact h2 u hu
  · intro u k hu e
    by_cases z : k + 1 = d
    · by_cases y : D u = some (k + 1)
      · have := h1 u _ hu y; omega
      · have c : u < N ∧ D u = none ∧ exR N edge D d u := by
          apply Classical.byContradiction
          intro c
          unfold rnd at e
          rw [if_neg c] at e
          exact y e
        obtain ⟨a, a1, a2, a3⟩ := c.2.2
        exact ⟨a, a1, a2, by rw [rnd_lt (by omega), a3, show d - 1 = k by omega]⟩
    · obtain ⟨a, a1, a2, a3⟩ := h3 u k hu ((rnd_lt z).mp e)
      exact ⟨a, a1, a2, rnd_n a3⟩
  · intro u a k hu ha hk he hda
    have hda' : D a = some k := (rnd_lt (by omega)).mp hda
    by_cases z : k + 1 < d
    · obtain ⟨k', q1, q2⟩ := h4 u a k hu ha z he hda'
      exact ⟨k', q1, rnd_n q2⟩
    · cases e : D u with
      | some k' =>
        have := h1 u k' hu e
        exact ⟨k', by omega, rnd_n e⟩
      | none =>
        refine ⟨d, by omega, ?_⟩
        unfold rnd
        rw [if_pos ⟨hu, e, a, ha, he, by rw [hda', show k = d - 1 by omega]⟩]
theorem rd_end {N : Nat} {edge : Nat → Nat → Prop} {fr : Nat → Bool} {D : Nat → Option Nat} {d : Nat} (h : rdI N edge fr D (d + 1)) (hno : ∀ u, u < N → D u ≠ some d) : distOk N edge fr D := by
  obtain ⟨h1, h2, h3, h4⟩ := h
  refine ⟨h2, h3, ?_⟩
  intro u a k hu ha he hda
  have := h1 a k ha hda
  have : k ≠ d := fun z => hno a ha (by rw [← z]; exact hda)
  exact h4 u a k hu ha (by omega) he hda
theorem m_hdL123 {B : Bas} {F : List (Nat → Nat)} {D : Nat → Option Nat} {d u : Nat} {v2 : Int32} {kf kfe ked keb : Nat → Int32} (hn : F.Nodup) (hl : F.length ≤ 6000) (he : eR F (prA B 7 F F.length) ked keb) (hfe : ∀ s, s ≤ F.length → kfe s = nI (prA B 7 F s).length) (hal : (prA B 7 F F.length).length ≤ 1010000) (hu : u < F.length) (hf : dR F.length kf D) (hd1 : 1 ≤ d) (hd : d < 2 ^ 30) (hD : ∀ v k, v < F.length → D v = some k → k < 2 ^ 30) :
    ∀ (r j n : Nat) (t : Bool), j + r = (mvs B (gt F u) 7 false).length → r + 1 < n → ∃ t' : Bool, f_BargeBasinModel_hardest_L123 v2 (nI d) (nI u) kf kfe ked n (bI t) (nI ((prA B 7 F u).length + j)) = some (bI t') ∧ (t' = true ↔ t = true ∨ ∃ i, ∃ hi : i < (mvs B (gt F u) 7 false).length, j ≤ i ∧ ∃ a, a < F.length ∧ gt F a = tgt (gt F u) (mvs B (gt F u) 7 false)[i] ∧ D a = some (d - 1)) := by
  have plen : (prA B 7 F (u + 1)).length = (prA B 7 F u).length + (mvs B (gt F u) 7 false).length := by rw [prA_s, List.length_append, prs_len]
  have ple : (prA B 7 F (u + 1)).length ≤ (prA B 7 F F.length).length := by
    obtain ⟨r, e⟩ := prA_pre (B := B) (most := 7) (L := F) (u := u + 1) (F.length - (u + 1))
    rw [show u + 1 + (F.length - (u + 1)) = F.length by omega] at e
    rw [e, List.length_append]; omega
  have one : ∀ n x, f_BargeBasinModel_hardest_L123 v2 (nI d) (nI u) kf kfe ked (n + 1) (bI true) x = some (bI true) := by
    intro n x
    rw [f_BargeBasinModel_hardest_L123, nI_1, ev_grdN _ (show u + 1 < 6002 by omega) (by decide), if_neg (show ¬ bI true = 0 by decide)]
    split <;> rfl
  intro r
  induction r with
  | zero =>
    intro j n t h1 h2
    obtain ⟨n, rfl⟩ : ∃ y, n = y + 1 := ⟨n - 1, by omega⟩
    refine ⟨t, ?_, fun y => Or.inl y, fun y => y.elim id (fun ⟨i, hi, q, _⟩ => by omega)⟩
    rw [f_BargeBasinModel_hardest_L123, nI_1, ev_grdN _ (show u + 1 < 6002 by omega) (by decide), nI_clamp (show u + 1 < 2 ^ 31 by omega), hfe (u + 1) (by omega), if_pos (nI_le (by omega) (by omega))]
  | succ r ih =>
    intro j n t h1 h2
    obtain ⟨n, rfl⟩ : ∃ y, n = y + 1 := ⟨n - 1, by omega⟩
    cases t with
    | true => exact ⟨true, one n _, fun _ => Or.inl rfl, fun _ => rfl⟩
    | false =>
      have hj : j < (mvs B (gt F u) 7 false).length := by omega
      obtain ⟨l1, l2⟩ := prA_at (B := B) (most := 7) (L := F) hu hj
      obtain ⟨a, a1, a2, a3, a4⟩ := he _ l1
      rw [l2] at a3
      simp only at a3
      have ce : (oI (D a) = nI (d - 1)) = (D a = some (d - 1)) := oI_eq (by omega) (fun c hc => by have := hD a c a1 hc; omega)
      have dm : nI d - 1 = nI (d - 1) := pk_sub (a := d) (b := 1) hd1
      rw [f_BargeBasinModel_hardest_L123, nI_1, ev_grdN _ (show u + 1 < 6002 by omega) (by decide), nI_clamp (show u + 1 < 2 ^ 31 by omega), hfe (u + 1) (by omega), if_neg (nI_ge (by omega) (by omega)), if_pos (show bI false = 0 by decide), ev_grdN _ (show (prA B 7 F u).length + j < 1010000 by omega) (by decide), nI_clamp (show (prA B 7 F u).length + j < 2 ^ 31 by omega), a2, ev_grdN _ (show a < 6001 by omega) (by decide), nI_clamp (show a < 2 ^ 31 by omega), hf a a1, dm]
      simp only [ce]
      by_cases c : D a = some (d - 1)
      · obtain ⟨m, rfl⟩ : ∃ y, n = y + 1 := ⟨n - 1, by omega⟩
        refine ⟨true, by rw [if_pos c, ev_bnd]; exact one m _, fun _ => Or.inr ⟨j, hj, Nat.le_refl _, a, a1, a3, c⟩, fun _ => rfl⟩
      · obtain ⟨t', q1, q2⟩ := ih (j + 1) n false (by omega) (by omega)
        refine ⟨t', by rw [if_neg c, ev_bnd, nI_1]; exact q1, ?_⟩
        rw [q2]
        constructor
        · rintro (y | ⟨i, hi, y1, y2⟩)
          · exact Or.inl y
          · exact Or.inr ⟨i, hi, by omega, y2⟩
        · rintro (y | ⟨i, hi, y1, b, b1, b2, b3⟩)
          · exact Or.inl y
          · by_cases e : i = j
            · subst e
              have : b = a := gt_inj hn b1 a1 (by rw [b2, a3])
              rw [this] at b3
              exact absurd b3 c
            · exact Or.inr ⟨i, hi, by omega, b, b1, b2, b3⟩
theorem ex_iff {B : Bas} {F : List (Nat → Nat)} {D : Nat → Option Nat} {d u : Nat} (hu : u < F.length) : exR F.length (edL B F 7) D d u ↔ ∃ i, ∃ hi : i < (mvs B (gt F u) 7 false).length, 0 ≤ i ∧ ∃ a, a < F.length ∧ gt F a = tgt (gt F u) (mvs B (gt F u) 7 false)[i] ∧ D a = some (d - 1) := by
  constructor
  · rintro ⟨a, a1, ⟨h1, h2, c, h3, h4⟩, a3⟩
    rw [← gt_at hu] at h3 h4
    obtain ⟨i, hi, ei⟩ := List.getElem_of_mem h3
    exact ⟨i, hi, Nat.zero_le _, a, a1, by rw [ei, h4, gt_at a1], a3⟩
  · rintro ⟨i, hi, -, a, a1, a2, a3⟩
    refine ⟨a, a1, ⟨hu, a1, (mvs B (gt F u) 7 false)[i], ?_, ?_⟩, a3⟩
    · rw [← gt_at hu]; exact List.getElem_mem hi
    · rw [← gt_at hu, ← gt_at a1, a2]
theorem m_hdL89 {B : Bas} {F : List (Nat → Nat)} {D : Nat → Option Nat} {d : Nat} {kfe ked keb : Nat → Int32} (h : basOk B) (hst : ∀ P, P ∈ F → stC B P) (hn : F.Nodup) (hl : F.length ≤ 6000) (he : eR F (prA B 7 F F.length) ked keb) (hfe : ∀ s, s ≤ F.length → kfe s = nI (prA B 7 F s).length) (hal : (prA B 7 F F.length).length ≤ 1010000) (hd1 : 1 ≤ d) (hd : d < 2 ^ 30) (hD : ∀ v k, v < F.length → D v = some k → k < d) :
    ∀ (r u n : Nat) (more : Bool) (kf : Nat → Int32), u + r = F.length → r < n → dR F.length kf (rnd F.length (edL B F 7) D d u) → (more = true ↔ ∃ v, v < u ∧ D v = none ∧ exR F.length (edL B F 7) D d v) →
      ∃ (more' : Bool) (kf' : Nat → Int32), f_BargeBasinModel_hardest_L89 (nI d) (nI F.length) kfe ked n (bI more) (nI u) kf = some (bI more', kf') ∧ dR F.length kf' (rnd F.length (edL B F 7) D d F.length) ∧ (more' = true ↔ ∃ v, v < F.length ∧ D v = none ∧ exR F.length (edL B F 7) D d v) := by
  intro r
  induction r with
  | zero =>
    intro u n more kf h1 h2 h3 h4
    obtain ⟨n, rfl⟩ : ∃ y, n = y + 1 := ⟨n - 1, by omega⟩
    have e : u = F.length := by omega
    subst e
    exact ⟨more, kf, by rw [f_BargeBasinModel_hardest_L89, if_pos (nI_le (Nat.le_refl _) (by omega))], h3, h4⟩
  | succ r ih =>
    intro u n more kf h1 h2 h3 h4
    obtain ⟨n, rfl⟩ : ∃ y, n = y + 1 := ⟨n - 1, by omega⟩
    have hu : u < F.length := by omega
    have at_u : rnd F.length (edL B F 7) D d u u = D u := by
      unfold rnd
      rw [if_neg (fun z => by have := z.1; omega)]
    have other : ∀ v, v ≠ u → rnd F.length (edL B F 7) D d (u + 1) v = rnd F.length (edL B F 7) D d u v := by
      intro v hv
      unfold rnd
      by_cases c : v < u ∧ D v = none ∧ exR F.length (edL B F 7) D d v
      · rw [if_pos c, if_pos ⟨by have := c.1; omega, c.2⟩]
      · rw [if_neg c, if_neg (fun z => c ⟨by have := z.1; omega, z.2⟩)]
    have mv := mvs_168 (most := 7) (bk := false) h (hst _ (gt_mem hu)).1
    rw [f_BargeBasinModel_hardest_L89, if_neg (nI_ge hu (by omega)), ev_grdN _ (show u < 6001 by omega) (by decide), nI_clamp (show u < 2 ^ 31 by omega), h3 u hu, at_u]
    cases eu : D u with
    | some k =>
      rw [if_neg (show ¬ oI (some k) < 0 from nI_pos (by have := hD u k hu eu; omega)), ev_bnd, nI_1]
      refine ih (u + 1) n more kf (by omega) (by omega) (fun v hv => ?_) ?_
      · by_cases z : v = u
        · subst z
          rw [h3 v hv, at_u, eu, rnd_n eu]
        · rw [h3 v hv, other v z]
      · rw [h4]
        constructor
        · rintro ⟨v, y1, y2⟩; exact ⟨v, by omega, y2⟩
        · rintro ⟨v, y1, y2, y3⟩
          have : v ≠ u := fun z => by rw [z, eu] at y2; cases y2
          exact ⟨v, by omega, y2, y3⟩
    | none =>
      have Dl : ∀ v k, v < F.length → rnd F.length (edL B F 7) D d u v = some k → k < 2 ^ 30 := by
        intro v k hv e
        by_cases z : k = d
        · omega
        · have := hD v k hv ((rnd_lt z).mp e); omega
      obtain ⟨t, q1, q2⟩ := m_hdL123 (v2 := bI more) (d := d) hn hl he hfe hal hu h3 hd1 hd Dl (mvs B (gt F u) 7 false).length 0 jN false (by omega) (by show _ < 2000000; omega)
      have q3 : t = true ↔ exR F.length (edL B F 7) D d u := by
        rw [ex_iff hu, q2]
        simp only [rnd_lt (show d - 1 ≠ d by omega)]
        exact ⟨fun y => y.elim (fun z => by (cases z)) id, Or.inr⟩
      rw [Nat.add_zero, show bI false = (0 : Int32) from rfl] at q1
      rw [if_pos (show oI none < 0 by decide), ev_grdN _ (show u < 6002 by omega) (by decide), ev_bnd, hfe u (by omega), ev_b _ q1]
      have J : f_BargeBasinModel_hardest_J173 (f_BargeBasinModel_hardest_L89 (nI d) (nI F.length) kfe ked n) (bI more) (nI d) (nI u) (bI t) kf = f_BargeBasinModel_hardest_L89 (nI d) (nI F.length) kfe ked n (bI (more || t)) (nI (u + 1)) (if t = true then upd kf u (nI d) else kf) := by
        unfold f_BargeBasinModel_hardest_J173
        simp only [ev_bnd, nI_1, ev_grdN _ (show u < 6001 by omega) (show 6001 < 2 ^ 31 by decide), nI_clamp (show u < 2 ^ 31 by omega)]
        cases t <;> cases more <;> rfl
      rw [J]
      refine ih (u + 1) n (more || t) _ (by omega) (by omega) (fun v hv => ?_) ?_
      · by_cases z : v = u
        · subst z
          cases ht : t with
          | true =>
            rw [if_pos rfl, pk_us]
            unfold rnd
            rw [if_pos ⟨by omega, eu, q3.mp ht⟩]; rfl
          | false =>
            rw [if_neg (by decide), h3 v hv, at_u]
            unfold rnd
            rw [if_neg (fun y => by have := q3.mpr y.2.2; rw [ht] at this; cases this)]
        · have : (if t = true then upd kf u (nI d) else kf) v = kf v := by
            cases t
            · rfl
            · exact pk_un z
          rw [this, h3 v hv, other v z]
      · rw [Bool.or_eq_true, h4, q3]
        constructor
        · rintro (⟨v, y1, y2⟩ | y)
          · exact ⟨v, by omega, y2⟩
          · exact ⟨u, by omega, eu, y⟩
        · rintro ⟨v, y1, y2, y3⟩
          by_cases z : v = u
          · subst z; exact Or.inr y3
          · exact Or.inl ⟨v, by omega, y2, y3⟩
theorem m_hdL80 {B : Bas} {F : List (Nat → Nat)} {kfe ked keb : Nat → Int32} (h : basOk B) (hst : ∀ P, P ∈ F → stC B P) (hn : F.Nodup) (hl : F.length ≤ 6000) (he : eR F (prA B 7 F F.length) ked keb) (hfe : ∀ s, s ≤ F.length → kfe s = nI (prA B 7 F s).length) (hal : (prA B 7 F F.length).length ≤ 1010000) :
    ∀ (r d n : Nat) (more : Bool) (D : Nat → Option Nat) (kf : Nat → Int32), d + r = F.length + 2 → r < n → 1 ≤ d → rdI F.length (edL B F 7) (frL B F) D d → dR F.length kf D → (more = true → 2 ≤ d → ∃ u, u < F.length ∧ D u = some (d - 1)) → (more = false → 2 ≤ d ∧ ∀ u, u < F.length → D u ≠ some (d - 1)) →
      ∃ D' kf', f_BargeBasinModel_hardest_L80 (nI F.length) kfe ked n (bI more) (nI d) kf = some kf' ∧ distOk F.length (edL B F 7) (frL B F) D' ∧ dR F.length kf' D' := by
  intro r
  induction r with
  | zero =>
    intro d n more D kf h1 h2 h3 h4 h5 h6 h7
    obtain ⟨n, rfl⟩ : ∃ y, n = y + 1 := ⟨n - 1, by omega⟩
    cases more with
    | true =>
      obtain ⟨u, hu, eu⟩ := h6 rfl (by omega)
      have := lvD_lt h4.2.2.1 hu eu
      omega
    | false =>
      obtain ⟨d', rfl⟩ : ∃ y, d = y + 1 := ⟨d - 1, by omega⟩
      exact ⟨D, kf, by rw [f_BargeBasinModel_hardest_L80, if_pos (show bI false = 0 by decide)], rd_end h4 (h7 rfl).2, h5⟩
  | succ r ih =>
    intro d n more D kf h1 h2 h3 h4 h5 h6 h7
    obtain ⟨n, rfl⟩ : ∃ y, n = y + 1 := ⟨n - 1, by omega⟩
    cases more with
    | false =>
      obtain ⟨d', rfl⟩ : ∃ y, d = y + 1 := ⟨d - 1, by omega⟩
      exact ⟨D, kf, by rw [f_BargeBasinModel_hardest_L80, if_pos (show bI false = 0 by decide)], rd_end h4 (h7 rfl).2, h5⟩
    | true =>
      have r0 : rnd F.length (edL B F 7) D d 0 = D := by
        funext v
        unfold rnd
        rw [if_neg (fun z => by have := z.1; omega)]
      obtain ⟨more1, kf1, e1, q1, q2⟩ := m_hdL89 (D := D) (d := d) h hst hn hl he hfe hal h3 (by omega) h4.1 F.length 0 jN false kf (by omega) (by show _ < 2000000; omega) (by rw [r0]; exact h5) ⟨fun z => by (cases z), fun ⟨v, y, _⟩ => by omega⟩
      rw [nI_0, show bI false = (0 : Int32) from rfl] at e1
      rw [f_BargeBasinModel_hardest_L80, if_neg (show ¬ bI true = 0 by decide), ev_b _ e1, un2_ap, ev_bnd, nI_1]
      refine ih (d + 1) n more1 (rnd F.length (edL B F 7) D d F.length) kf1 (by omega) (by omega) (by omega) (rd_next h3 h4) q1 ?_ ?_
      · intro z _
        obtain ⟨v, y1, y2, y3⟩ := q2.mp z
        refine ⟨v, y1, ?_⟩
        unfold rnd
        rw [if_pos ⟨y1, y2, y3⟩, Nat.add_sub_cancel]
      · intro z
        refine ⟨by omega, fun u hu e => ?_⟩
        rw [Nat.add_sub_cancel] at e
        unfold rnd at e
        by_cases c : u < F.length ∧ D u = none ∧ exR F.length (edL B F 7) D d u
        · have := q2.mpr ⟨u, c⟩
          rw [z] at this; cases this
        · rw [if_neg c] at e
          have := h4.1 u d hu e
          omega
