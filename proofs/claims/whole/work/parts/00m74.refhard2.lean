theorem m_hdL15 {B : Bas} {F : List (Nat → Nat)} {kk kg kpl : Nat → Int32} (h : basOk B) (hk : ∀ b, b < bn B → kk b = nI (bK B b)) (hg : chG B kg) (hp : rP B F kpl) (hl : F.length ≤ 6000) (hst : ∀ P, P ∈ F → stC B P) :
    ∀ (r u n m : Nat) (kf : Nat → Int32), u + r = F.length → r < n → (∀ v, v < u → kf v = oI (if frL B F v then some 0 else none)) → m ≤ u → (m = u ↔ ∀ v, v < u → frL B F v = false) →
      ∃ (m' : Nat) (kf' : Nat → Int32), f_BargeBasinModel_hardest_L15 (nI (bn B)) (nI F.length) kk kg kpl n (nI m) (nI u) kf = some (nI m', kf') ∧ (∀ v, v < F.length → kf' v = oI (if frL B F v then some 0 else none)) ∧ m' ≤ F.length ∧ (m' = F.length ↔ ∀ v, v < F.length → frL B F v = false) := by
  intro r
  induction r with
  | zero =>
    intro u n m kf h1 h2 h3 h4 h5
    obtain ⟨n, rfl⟩ : ∃ y, n = y + 1 := ⟨n - 1, by omega⟩
    have e : u = F.length := by omega
    subst e
    exact ⟨m, kf, by rw [f_BargeBasinModel_hardest_L15, if_pos (nI_le (Nat.le_refl _) (by omega))], h3, h4, h5⟩
  | succ r ih =>
    intro u n m kf h1 h2 h3 h4 h5
    obtain ⟨n, rfl⟩ : ∃ y, n = y + 1 := ⟨n - 1, by omega⟩
    have hu : u < F.length := by omega
    have fr := m_isFreedStand h hk hg hp hu (by omega) (hst _ (gt_mem hu))
    have fe : freedA B (gt F u) = frL B F u := by rw [frL_at hu, gt_at hu]
    rw [fe] at fr
    rw [f_BargeBasinModel_hardest_L15, if_neg (nI_ge hu (by omega)), ev_b _ fr]
    unfold f_BargeBasinModel_hardest_J41
    rw [ev_grdN _ (show u < 6001 by omega) (by decide), ev_grdN _ (show u < 6001 by omega) (by decide), ev_grdN _ (show u < 6001 by omega) (by decide), ev_grdN _ (show u < 6001 by omega) (by decide), nI_clamp (show u < 2 ^ 31 by omega), pk_us, pk_us]
    cases ef : frL B F u with
    | false =>
      rw [if_pos (show bI false = 0 by decide), if_neg (show ¬ (0 : Int32) ≤ -1 by decide), ev_bnd, ev_bnd, nI_1, nI_1]
      refine ih (u + 1) n (m + 1) _ (by omega) (by omega) (fun v hv => ?_) (by omega) ?_
      · by_cases z : v = u
        · subst z; rw [pk_us, ef]; rfl
        · rw [pk_un z]; exact h3 v (by omega)
      · constructor
        · intro z v hv
          by_cases y : v = u
          · subst y; exact ef
          · exact h5.mp (by omega) v (by omega)
        · intro z
          have := h5.mpr (fun v hv => z v (by omega))
          omega
    | true =>
      rw [if_neg (show ¬ bI true = 0 by decide), if_pos (show (0 : Int32) ≤ 0 by decide), ev_bnd, ev_bnd, nI_1, show nI m + 0 = nI m from Int32.add_zero _]
      refine ih (u + 1) n m _ (by omega) (by omega) (fun v hv => ?_) (by omega) ?_
      · by_cases z : v = u
        · subst z; rw [pk_us, ef]; rfl
        · rw [pk_un z]; exact h3 v (by omega)
      · constructor
        · intro z; omega
        · intro z
          have := z u (by omega)
          rw [ef] at this; cases this
theorem bestO_none {D : Nat → Option Nat} : ∀ {u : Nat}, bestO D u = none ↔ ∀ v, v < u → D v = none
  | 0 => ⟨fun _ v hv => by omega, fun _ => rfl⟩
  | u + 1 => by
    have ih := bestO_none (D := D) (u := u)
    have bs : bestO D (u + 1) = (match D u, bestO D u with
        | none, b => b
        | some _, none => some u
        | some k, some b => if dvO D b < k then some u else some b) := rfl
    rw [bs]
    cases e : D u with
    | none =>
      show bestO D u = none ↔ _
      rw [ih]
      constructor
      · intro h v hv
        by_cases z : v = u
        · subst z; exact e
        · exact h v (by omega)
      · exact fun h v hv => h v (by omega)
    | some k =>
      constructor
      · intro h
        cases e2 : bestO D u with
        | none => rw [e2] at h; cases h
        | some b =>
          rw [e2] at h
          have h' : (if dvO D b < k then some u else some b) = none := h
          split at h' <;> cases h'
      · intro h
        have := h u (by omega)
        rw [e] at this; cases this
theorem m_hdL218 {N : Nat} {D : Nat → Option Nat} {kf : Nat → Int32} (hN : N ≤ 6000) (h0 : 0 < N) (hf : dR N kf D) (hk : ∀ u k, u < N → D u = some k → k < 2 ^ 31) :
    ∀ (r u n : Nat), u + r = N → r < n → 1 ≤ u → f_BargeBasinModel_hardest_L218 (nI N) kf n (nI ((bestO D u).getD 0)) (nI u) = some (nI ((bestO D N).getD 0)) := by
  intro r
  induction r with
  | zero =>
    intro u n h1 h2 h3
    obtain ⟨n, rfl⟩ : ∃ y, n = y + 1 := ⟨n - 1, by omega⟩
    have e : u = N := by omega
    subst e
    rw [f_BargeBasinModel_hardest_L218, if_pos (nI_le (Nat.le_refl _) (by omega))]
  | succ r ih =>
    intro u n h1 h2 h3
    obtain ⟨n, rfl⟩ : ∃ y, n = y + 1 := ⟨n - 1, by omega⟩
    have hu : u < N := by omega
    have hb : (bestO D u).getD 0 < N := by
      cases e : bestO D u with
      | none => exact h0
      | some b => have := (bestO_lt e).1; show b < N; omega
    have nxt := ih (u + 1) n (by omega) (by omega) (by omega)
    have bs : bestO D (u + 1) = (match D u, bestO D u with
        | none, b => b
        | some _, none => some u
        | some k, some b => if dvO D b < k then some u else some b) := rfl
    rw [bs] at nxt
    rw [f_BargeBasinModel_hardest_L218, if_neg (nI_ge hu (by omega)), ev_grdN _ (show u < 6001 by omega) (by decide), ev_grdN _ (show (bestO D u).getD 0 < 6001 by omega) (by decide), nI_clamp (show u < 2 ^ 31 by omega), nI_clamp (show (bestO D u).getD 0 < 2 ^ 31 by omega), hf u hu, hf _ hb, ev_bnd, ev_bnd, nI_1]
    cases e : D u with
    | none =>
      rw [e] at nxt
      have le : oI none ≤ oI (D ((bestO D u).getD 0)) := by
        cases e2 : D ((bestO D u).getD 0) with
        | none => exact Int32.le_refl _
        | some k =>
          have := hk _ k hb e2
          show (-1 : Int32) ≤ nI k
          rw [Int32.le_iff_toInt_le, nI_toInt this]
          show (-1 : Int) ≤ _
          omega
      rw [if_pos le]
      exact nxt
    | some k =>
      have k31 := hk u k hu e
      cases e2 : bestO D u with
      | none =>
        rw [e, e2] at nxt
        have d0 : D 0 = none := bestO_none.mp e2 0 (by omega)
        have : ¬ oI (some k) ≤ oI (D ((none : Option Nat).getD 0)) := by
          show ¬ nI k ≤ oI (D 0)
          rw [d0]
          show ¬ nI k ≤ (-1 : Int32)
          rw [Int32.le_iff_toInt_le, nI_toInt k31]
          show ¬ (k : Int) ≤ -1
          omega
        rw [if_neg this]
        exact nxt
      | some b =>
        have l2 := bestO_lt e2
        have b31 := hk b _ (by omega) (some_dv l2.2)
        rw [e, e2] at nxt
        have g : (some b).getD 0 = b := rfl
        rw [g, some_dv l2.2]
        have cmp : (oI (some k) ≤ oI (some (dvO D b))) = (k ≤ dvO D b) := nI_leE k31 b31
        simp only [cmp]
        have nxt' : f_BargeBasinModel_hardest_L218 (nI N) kf n (nI ((if dvO D b < k then some u else some b).getD 0)) (nI (u + 1)) = some (nI ((bestO D N).getD 0)) := nxt
        by_cases c : dvO D b < k
        · rw [if_pos c] at nxt'
          rw [if_neg (by omega)]
          exact nxt'
        · rw [if_neg c] at nxt'
          rw [if_pos (by omega)]
          exact nxt'
/-- what a look for the hardest stand comes to -/
def hdX (B : Bas) (P : Nat → Nat) (s : Int32) (kf kpl : Nat → Int32) : Prop :=
  (6000 < (FL B 7 P).length ∧ s = -10) ∨ ((FL B 7 P).length ≤ 6000 ∧ (∀ v, v < (FL B 7 P).length → frL B (FL B 7 P) v = false) ∧ s = -11) ∨
  ((FL B 7 P).length ≤ 6000 ∧ ∃ D b, distOk (FL B 7 P).length (edL B (FL B 7 P) 7) (frL B (FL B 7 P)) D ∧ bestO D (FL B 7 P).length = some b ∧ s = nI b ∧ dR (FL B 7 P).length kf D ∧ rP B (FL B 7 P) kpl)
theorem m_hardest {B : Bas} {P : Nat → Nat} {kwl kk kat ks ky kg : Nat → Int32} (h : basOk B) (hP : stC B P) (hr : rfB B kk ks ky) (hwl : rfW B kwl) (hp : chP B P kat) (hg : chG B kg) (st0 ed0 : Int32) (kpl khd kch kdp kpr kbb kby kbs kf kfe ked keb kwho kh : Nat → Int32) :
    ∃ (s st ed : Int32) (kpl' khd' kch' kdp' kpr' kbb' kby' kbs' kf' kfe' ked' keb' kwho' kh' : Nat → Int32), f_BargeBasinModel_hardest (nI (bw B)) (nI (bh B)) (nI (bn B)) st0 ed0 kwl kk kat ks ky kg kpl khd kch kdp kpr kbb kby kbs kf kfe ked keb kwho kh = some (s, st, ed, kpl', khd', kch', kdp', kpr', kbb', kby', kbs', kf', kfe', ked', keb', kwho', kh') ∧ hdX B P s kf' kpl' := by
  obtain ⟨well, st, ed, b1, b2, b3, b4, b5, b6, b7, b8, b9, b10, b11, b12, b13, f1, f2, f3⟩ := m_looksAtAll (sg := false) h hP hr hwl hp rfl st0 ed0 kpl khd kch kdp kpr kbb kby kbs kfe ked keb kwho kh
  rw [show bI false = (0 : Int32) from rfl] at f1
  unfold f_BargeBasinModel_hardest
  rw [ev_b _ f1, un16_ap]
  cases well with
  | false =>
    rw [if_pos (show bI false = 0 by decide)]
    exact ⟨_, _, _, _, _, _, _, _, _, _, _, _, _, _, _, _, _, rfl, Or.inl ⟨f3 rfl, rfl⟩⟩
  | true =>
    obtain ⟨g1, g2, ⟨g3, g4⟩, g5⟩ := f2 rfl
    subst g2
    have g1' : (FL B 7 P).length ≤ 6000 := g1
    obtain ⟨-, er, -⟩ := id g4
    obtain ⟨z0, z1⟩ := FL_0 (B := B) (most := 7) (P := P)
    have al : (prA B 7 (FL B 7 P) (FL B 7 P).length).length ≤ 1010000 := by
      have := prA_len (B := B) (most := 7) (L := FL B 7 P) h g3.1 (Nat.le_refl _)
      omega
    obtain ⟨m, kf1, e1, q1, q2, q3⟩ := m_hdL15 (F := FL B 7 P) h (fun b hb => (hr b hb).1) hg g3.2.1 g1' g3.1 (FL B 7 P).length 0 jN 0 kf (by omega) (by show _ < 2000000; omega) (fun v hv => by omega) (Nat.le_refl _) ⟨fun _ v hv => by omega, fun _ => rfl⟩
    rw [nI_0] at e1
    have fl : FL B (if false = true then 1 else 7) P = FL B 7 P := rfl
    rw [fl]
    rw [if_neg (show ¬ bI true = 0 by decide), ev_b _ e1, un2_ap]
    have ce : (nI m = nI (FL B 7 P).length) = (m = (FL B 7 P).length) := nI_eqL (by omega) (by omega)
    simp only [ce]
    by_cases c : m = (FL B 7 P).length
    · rw [if_pos c]
      exact ⟨_, _, _, _, _, _, _, _, _, _, _, _, _, _, _, _, _, rfl, Or.inr (Or.inl ⟨g1', q3.mp c, rfl⟩)⟩
    · have st1 : rdI (FL B 7 P).length (edL B (FL B 7 P) 7) (frL B (FL B 7 P)) (fun v => if frL B (FL B 7 P) v then some 0 else none) 1 := by
        refine ⟨?_, ?_, ?_, ?_⟩
        · intro u k hu e
          cases ef : frL B (FL B 7 P) u
          · simp only [ef] at e; cases e
          · simp only [ef] at e
            have : 0 = k := Option.some.inj e
            omega
        · intro u hu
          cases ef : frL B (FL B 7 P) u
          · simp [ef]
          · simp [ef]
        · intro u k hu e
          cases ef : frL B (FL B 7 P) u
          · simp only [ef] at e; cases e
          · simp only [ef] at e
            have : 0 = k + 1 := Option.some.inj e
            omega
        · intro u a k hu ha hk; omega
      obtain ⟨D, kf2, e2, dd, df⟩ := m_hdL80 (F := FL B 7 P) h g3.1 FL_nd g1' er g5 al ((FL B 7 P).length + 1) 1 jN true _ kf1 (by omega) (by show _ < 2000000; omega) (Nat.le_refl _) st1 q1 (fun _ y => by omega) (fun y => by cases y)
      have hb : ∃ b, bestO D (FL B 7 P).length = some b := by
        cases e : bestO D (FL B 7 P).length with
        | some b => exact ⟨b, rfl⟩
        | none =>
          exfalso
          apply c
          rw [q3]
          intro v hv
          rw [← Bool.not_eq_true]
          intro y
          have := (dd.1 v hv).mpr y
          rw [bestO_none.mp e v hv] at this
          cases this
      obtain ⟨b, eb⟩ := hb
      have hk : ∀ u k, u < (FL B 7 P).length → D u = some k → k < 2 ^ 31 := by
        intro u k hu e
        have := lvD_lt dd.2.1 hu e
        omega
      have b1' : (bestO D 1).getD 0 = 0 := by
        cases e : bestO D 1 with
        | none => rfl
        | some x => have := (bestO_lt e).1; show x = 0; omega
      have e3 := m_hdL218 g1' z0 df hk ((FL B 7 P).length - 1) 1 jN (by omega) (by show _ < 2000000; omega) (Nat.le_refl _)
      rw [b1', eb, nI_0] at e3
      rw [if_neg c, ev_b _ (show f_BargeBasinModel_hardest_L80 (nI (FL B 7 P).length) b9 b10 jN 1 1 kf1 = _ from e2), ev_b _ (show f_BargeBasinModel_hardest_L218 (nI (FL B 7 P).length) kf2 jN 0 1 = _ from e3)]
      exact ⟨_, _, _, _, _, _, _, _, _, _, _, _, _, _, _, _, _, rfl, Or.inr (Or.inr ⟨g1', D, b, dd, eb, rfl, df, g3.2.1⟩)⟩
