/-! The reference's isFreedStand, firstFreed, plan. -/
theorem m_isFreedStand {B : Bas} {L : List (Nat → Nat)} {i : Nat} {kk kg kpl : Nat → Int32} (h : basOk B) (hk : ∀ b, b < bn B → kk b = nI (bK B b)) (hg : chG B kg) (hp : rP B L kpl) (hi : i < L.length) (hl : L.length ≤ 6001) (hs : stC B (gt L i)) : f_BargeBasinModel_isFreedStand (nI i) (nI (bn B)) kk kg kpl = some (bI (freedA B (gt L i))) := by
  have n12 := h.2.2.2.2.1
  have loop : ∀ (r b n : Nat), b + r = bn B → r < n → f_BargeBasinModel_isFreedStand_L2 (nI i) (nI (bn B)) kk kg kpl n (nI b) = some (if (List.range' b (bn B - b)).all (fun b => !(decide (bK B b = 5) && decide (gt L i b ≠ bG B b))) then .inr () else .inl ()) := by
    intro r
    induction r with
    | zero =>
      intro b n h1 h2
      obtain ⟨n, rfl⟩ : ∃ z, n = z + 1 := ⟨n - 1, by omega⟩
      have e : b = bn B := by omega
      subst e
      rw [f_BargeBasinModel_isFreedStand_L2, if_pos (nI_le (Nat.le_refl _) (by omega))]
      simp
    | succ r ih =>
      intro b n h1 h2
      obtain ⟨n, rfl⟩ : ∃ z, n = z + 1 := ⟨n - 1, by omega⟩
      have hb : b < bn B := by omega
      obtain ⟨a1, a2, -⟩ := basOk_wh h hb
      have pv := hp i hi b hb
      rw [← gt_at hi] at pv
      have p64 := stC_64 h hs b
      have c5 : (nI (bK B b) = 5) = (bK B b = 5) := nI_eqL (j := 5) (by omega) (by decide)
      rw [f_BargeBasinModel_isFreedStand_L2, if_neg (nI_ge hb (by omega)), idx12, ev_grdN _ a1 (by decide), ev_grdN _ (show 12 * i + b < 72012 by omega) (by decide), ev_grdN _ a1 (by decide), cl_nI a1, nI_clamp (show 12 * i + b < 2 ^ 31 by omega), hk b hb, pv, all_from hb, ev_bnd, nI_1, ih (b + 1) n (by omega) (by omega)]
      simp only [c5]
      by_cases k5 : bK B b = 5
      · have g64 := h.2.2.2.2.2.2 b hb k5
        have ce : (nI (gt L i b) = nI (bG B b)) = (gt L i b = bG B b) := nI_eqL (by omega) (by omega)
        rw [hg b hb k5]
        simp only [ce]
        by_cases e : gt L i b = bG B b
        · have be : (decide (bK B b = 5) && decide (gt L i b ≠ bG B b)) = false := by simp [e]
          rw [be, Bool.not_false, Bool.true_and, if_pos k5, if_pos e]
        · have be : (decide (bK B b = 5) && decide (gt L i b ≠ bG B b)) = true := by simp [k5, e]
          rw [be, if_pos k5, if_neg e]; rfl
      · have be : (decide (bK B b = 5) && decide (gt L i b ≠ bG B b)) = false := by simp [k5]
        rw [be, Bool.not_false, Bool.true_and, if_neg k5]
  unfold f_BargeBasinModel_isFreedStand
  have e := loop (bn B) 0 jN (by omega) (by show bn B < 2000000; omega)
  rw [Nat.sub_zero, ← List.range_eq_range', nI_0] at e
  rw [ev_b _ e]
  unfold freedA
  cases (List.range (bn B)).all (fun b => !(decide (bK B b = 5) && decide (gt L i b ≠ bG B b))) <;> rfl
theorem m_firstFreed {B : Bas} {L : List (Nat → Nat)} {kk kg kpl : Nat → Int32} (h : basOk B) (hk : ∀ b, b < bn B → kk b = nI (bK B b)) (hg : chG B kg) (hp : rP B L kpl) (hl : L.length ≤ 6000) (hs : ∀ P, P ∈ L → stC B P) :
    ∃ o, f_BargeBasinModel_firstFreed (nI (bn B)) (nI L.length) kk kg kpl = some (oI o) ∧ (∀ z, o = some z → z < L.length ∧ freedA B (gt L z) = true ∧ ∀ a, a < z → freedA B (gt L a) = false) ∧ (o = none → ∀ a, a < L.length → freedA B (gt L a) = false) := by
  have loop : ∀ (r i n : Nat), i + r = L.length → r < n → (∀ a, a < i → freedA B (gt L a) = false) → ∃ z, f_BargeBasinModel_firstFreed_L2 (nI (bn B)) (nI L.length) kk kg kpl n (nI i) = some (nI z) ∧ z ≤ L.length ∧ (∀ a, a < z → freedA B (gt L a) = false) ∧ (z < L.length → freedA B (gt L z) = true) := by
    intro r
    induction r with
    | zero =>
      intro i n h1 h2 h3
      obtain ⟨n, rfl⟩ : ∃ z, n = z + 1 := ⟨n - 1, by omega⟩
      exact ⟨i, by rw [f_BargeBasinModel_firstFreed_L2, if_pos (nI_le (by omega) (by omega))], by omega, h3, fun z => by omega⟩
    | succ r ih =>
      intro i n h1 h2 h3
      obtain ⟨n, rfl⟩ : ∃ z, n = z + 1 := ⟨n - 1, by omega⟩
      have hi : i < L.length := by omega
      rw [f_BargeBasinModel_firstFreed_L2, if_neg (nI_ge hi (by omega)), ev_b _ (m_isFreedStand h hk hg hp hi (by omega) (hs _ (gt_mem hi)))]
      cases e : freedA B (gt L i) with
      | true => exact ⟨i, by rw [if_neg (show ¬ bI true = 0 by decide)], by omega, h3, fun _ => e⟩
      | false =>
        rw [if_pos (show bI false = 0 by decide), ev_bnd, nI_1]
        refine ih (i + 1) n (by omega) (by omega) (fun a ha => ?_)
        by_cases z : a = i
        · subst z; exact e
        · exact h3 a (by omega)
  obtain ⟨z, e, z1, z2, z3⟩ := loop L.length 0 jN (by omega) (by show _ < 2000000; omega) (fun a ha => by omega)
  rw [nI_0] at e
  unfold f_BargeBasinModel_firstFreed
  rw [ev_b _ e]
  by_cases c : z < L.length
  · exact ⟨some z, by rw [if_neg (nI_ge c (by omega))]; rfl, fun y hy => by cases hy; exact ⟨c, z3 c, z2⟩, fun y => by cases y⟩
  · exact ⟨none, by rw [if_pos (nI_le (by omega) (by omega))]; rfl, fun y hy => by (cases hy), fun _ a ha => z2 a (by omega)⟩
theorem m_planL53 {B : Bas} {most : Nat} {F : List (Nat → Nat)} {A : List (Nat × Nat)} {par mno dep : Nat → Nat} {kdp kpr kbb kby kbs : Nat → Int32} {z : Nat} (ht : tR F A par mno dep kdp kpr kbb kby kbs) (tr : trOk B most F par mno dep) (hz : z < F.length) (hl : F.length ≤ 6000) :
    ∀ (r m n : Nat) (pb pw ps : Nat → Int32), r + m = dep z → r < n → ∃ pb' pw' ps', f_BargeBasinModel_plan_L53 kpr kbb kby kbs n (nI (upT par z m)) (nI r - 1) pb pw ps = some (pb', pw', ps') ∧
      (∀ j, j < r → pb' j = nI (mno (upT par z (dep z - 1 - j)) / 32) ∧ pw' j = nI (mno (upT par z (dep z - 1 - j)) / 8 % 4) ∧ ps' j = nI (mno (upT par z (dep z - 1 - j)) % 8)) ∧ (∀ j, r ≤ j → pb' j = pb j ∧ pw' j = pw j ∧ ps' j = ps j) := by
  have dz := (ht.2.1 z hz).2
  intro r
  induction r with
  | zero =>
    intro m n pb pw ps h1 h2
    obtain ⟨n, rfl⟩ : ∃ z, n = z + 1 := ⟨n - 1, by omega⟩
    exact ⟨pb, pw, ps, by rw [f_BargeBasinModel_plan_L53, if_pos (show nI 0 - 1 < 0 by decide)], fun j hj => by omega, fun j _ => ⟨rfl, rfl, rfl⟩⟩
  | succ r ih =>
    intro m n pb pw ps h1 h2
    obtain ⟨n, rfl⟩ : ∃ z, n = z + 1 := ⟨n - 1, by omega⟩
    obtain ⟨u1, u2⟩ := up_ok tr hz m (by omega)
    have p := up_pos tr hz (show m < dep z by omega)
    obtain ⟨a1, a2, a3, a4, a5, a6, a7, a8, a9⟩ := ht.2.2 _ p u1
    obtain ⟨pb', pw', ps', e, q1, q2⟩ := ih (m + 1) n (upd pb r (nI (mno (upT par z m) / 32))) (upd pw r (nI (mno (upT par z m) / 8 % 4))) (upd ps r (nI (mno (upT par z m) % 8))) (by omega) (by omega)
    refine ⟨pb', pw', ps', ?_, ?_, ?_⟩
    · have e' : f_BargeBasinModel_plan_L53 kpr kbb kby kbs n (nI (par (upT par z m))) (nI r - 1) (upd pb r (nI (mno (upT par z m) / 32))) (upd pw r (nI (mno (upT par z m) / 8 % 4))) (upd ps r (nI (mno (upT par z m) % 8))) = some (pb', pw', ps') := e
      rw [f_BargeBasinModel_plan_L53, nI_pred, if_neg (nI_pos (by omega))]
      simp only [ev_grdN _ (show upT par z m < 6001 by omega) (show 6001 < 2 ^ 31 by decide), ev_grdN _ (show r < 6000 by omega) (show 6000 < 2 ^ 31 by decide), ev_bnd, nI_clamp (show upT par z m < 2 ^ 31 by omega), nI_clamp (show r < 2 ^ 31 by omega), a3, a4, a5, a6, ← Int32.sub_eq_add_neg]
      exact e'
    · intro j hj
      by_cases y : j = r
      · subst y
        obtain ⟨b1, b2, b3⟩ := q2 j (Nat.le_refl _)
        rw [b1, b2, b3, pk_us, pk_us, pk_us, show dep z - 1 - j = m by omega]
        exact ⟨rfl, rfl, rfl⟩
      · exact q1 j (by omega)
    · intro j hj
      obtain ⟨b1, b2, b3⟩ := q2 j (by omega)
      rw [b1, b2, b3, pk_un (by omega), pk_un (by omega), pk_un (by omega)]
      exact ⟨rfl, rfl, rfl⟩
/-- a plan of codes in the reference's three rows -/
def plW (cs : List Nat) (pb pw ps : Nat → Int32) : Prop := ∀ j, (hj : j < cs.length) → pb j = nI (cs[j] / 32) ∧ pw j = nI (cs[j] / 8 % 4) ∧ ps j = nI (cs[j] % 8)
/-- what a search for a plan comes to -/
def plX (B : Bas) (most : Nat) (P : Nat → Nat) (ans status : Int32) (new : Option (List Nat)) : Prop :=
  (6000 < (FL B 7 P).length ∧ ans = -1 ∧ status = 10 ∧ new = none) ∨ ((FL B 7 P).length ≤ 6000 ∧ (∀ k, ¬ canD B most k P) ∧ ans = -1 ∧ status = 11 ∧ new = none) ∨
  ((FL B 7 P).length ≤ 6000 ∧ ∃ k cs, isD B most P k ∧ gPath B most k P cs ∧ k < 6000 ∧ ans = nI k ∧ status = 0 ∧ new = some cs)
theorem plX_u {B : Bas} {most : Nat} {P : Nat → Nat} {a a' s s' : Int32} {n n' : Option (List Nat)} (h1 : plX B most P a s n) (h2 : plX B most P a' s' n') : a = a' ∧ s = s' ∧ n = n' := by
  rcases h1 with ⟨p1, p2, p3, p4⟩ | ⟨p1, p5, p2, p3, p4⟩ | ⟨p1, k, cs, p5, p6, -, p2, p3, p4⟩ <;> rcases h2 with ⟨q1, q2, q3, q4⟩ | ⟨q1, q5, q2, q3, q4⟩ | ⟨q1, k', cs', q5, q6, -, q2, q3, q4⟩
  · exact ⟨by rw [p2, q2], by rw [p3, q3], by rw [p4, q4]⟩
  · omega
  · omega
  · omega
  · exact ⟨by rw [p2, q2], by rw [p3, q3], by rw [p4, q4]⟩
  · exact absurd q5.1 (p5 k')
  · omega
  · exact absurd p5.1 (q5 k)
  · have e := isD_u p5 q5
    subst e
    exact ⟨by rw [p2, q2], by rw [p3, q3], by rw [p4, q4, gPath_u p6 q6]⟩
theorem m_plan {B : Bas} {sg : Bool} {most : Nat} {P : Nat → Nat} {kwl kk kat ks ky kg : Nat → Int32} (h : basOk B) (hP : stC B P) (hr : rfB B kk ks ky) (hwl : rfW B kwl) (hp : chP B P kat) (hg : chG B kg) (hmost : most = if sg then 1 else 7) (khp kpm st0 ed0 : Int32) (pb pw ps kpl khd kch kdp kpr kbb kby kbs kfe ked keb kwho kh : Nat → Int32) :
    ∃ (ans status khp' kpm' st ed : Int32) (pb' pw' ps' kpl' khd' kch' kdp' kpr' kbb' kby' kbs' kfe' ked' keb' kwho' kh' : Nat → Int32) (new : Option (List Nat)), f_BargeBasinModel_plan (bI sg) 0 (nI (bw B)) (nI (bh B)) (nI (bn B)) khp kpm st0 ed0 kwl kk kat ks ky kg pb pw ps kpl khd kch kdp kpr kbb kby kbs kfe ked keb kwho kh = some (ans, status, khp', kpm', st, ed, pb', pw', ps', kpl', khd', kch', kdp', kpr', kbb', kby', kbs', kfe', ked', keb', kwho', kh') ∧
      plX B most P ans status new ∧ (new = none → khp' = khp ∧ kpm' = kpm ∧ pb' = pb ∧ pw' = pw ∧ ps' = ps) ∧ (∀ cs, new = some cs → khp' = 1 ∧ kpm' = nI cs.length ∧ cs.length ≤ 6000 ∧ plW cs pb' pw' ps') := by
  obtain ⟨well, st, ed, b1, b2, b3, b4, b5, b6, b7, b8, b9, b10, b11, b12, b13, f1, f2, f3⟩ := m_looksAtAll h hP hr hwl hp hmost st0 ed0 kpl khd kch kdp kpr kbb kby kbs kfe ked keb kwho kh
  have m17 : ((FL B most P).length ≤ 6000 ↔ (FL B 7 P).length ≤ 6000) := by
    cases sg with
    | true => rw [hmost]; exact (FL_17 h hP).1
    | false => rw [hmost]; exact Iff.rfl
  unfold f_BargeBasinModel_plan
  rw [ev_b _ f1, un16_ap]
  cases well with
  | false =>
    have l := f3 rfl
    rw [if_pos (show bI false = 0 by decide)]
    refine ⟨-1, 10, khp, kpm, st, ed, pb, pw, ps, b1, b2, b3, b4, b5, b6, b7, b8, b9, b10, b11, b12, b13, none, rfl, Or.inl ⟨?_, rfl, rfl, rfl⟩, fun _ => ⟨rfl, rfl, rfl, rfl, rfl⟩, fun cs z => by (cases z)⟩
    apply Nat.lt_of_not_le
    intro z
    have := m17.mpr z
    omega
  | true =>
    obtain ⟨g1, g2, ⟨g3, g4⟩, g5⟩ := f2 rfl
    subst g2
    have l7 := m17.mp g1
    obtain ⟨-, -, par, mno, dep, ht⟩ := id g4
    have tr := tr_of FL_nd (FL_clsd g1) ht
    obtain ⟨o, e1, o1, o2⟩ := m_firstFreed h (fun b hb => (hr b hb).1) hg g3.2.1 g1 g3.1
    obtain ⟨z0, z1⟩ := FL_0 (B := B) (most := most) (P := P)
    have gP : gt (FL B most P) 0 = P := by rw [gt_at z0]; exact z1
    rw [if_neg (show ¬ bI true = 0 by decide), ev_b _ e1]
    cases o with
    | none =>
      rw [if_neg (show ¬ 0 ≤ oI none by decide)]
      refine ⟨-1, 11, khp, kpm, _, ed, pb, pw, ps, b1, b2, b3, b4, b5, b6, b7, b8, b9, b10, b11, b12, b13, none, rfl, Or.inr (Or.inl ⟨l7, fun k hc => ?_, rfl, rfl, rfl⟩), fun _ => ⟨rfl, rfl, rfl, rfl, rfl⟩, fun cs z => by (cases z)⟩
      exact tr_none tr (o2 rfl) z0 (by rw [gP]; exact hc)
    | some z =>
      obtain ⟨y1, y2, y3⟩ := o1 z rfl
      have dz := ht.2.1 z y1
      obtain ⟨pb', pw', ps', e2, q1, -⟩ := m_planL53 ht tr y1 g1 (dep z) 0 jN pb pw ps (by omega) (by show _ < 2000000; omega)
      obtain ⟨t1, t2⟩ := tr_plan tr y1 y2 y3 (dep z) (Nat.le_refl _)
      rw [up_root tr y1, gP] at t1 t2
      rw [show oI (some z) = nI z from rfl, if_pos (nI_pos' (by omega)), ev_grdN _ (show z < 6001 by omega) (by decide), ev_bnd, ev_bnd, nI_clamp (show z < 2 ^ 31 by omega), dz.1, ev_b _ (show f_BargeBasinModel_plan_L53 b5 b6 b7 b8 jN (nI z) (nI (dep z) - 1) pb pw ps = _ from e2), un3_ap]
      refine ⟨nI (dep z), 0, 1, nI (dep z), _, ed, pb', pw', ps', b1, b2, b3, b4, b5, b6, b7, b8, b9, b10, b11, b12, b13, some (csT par mno z (dep z)), rfl, Or.inr (Or.inr ⟨l7, dep z, _, t1, t2, by omega, rfl, rfl, rfl⟩), fun y => by (cases y), fun cs y => ?_⟩
      cases y
      have cl := csT_len (par := par) (mno := mno) (z := z) (dep z)
      refine ⟨rfl, by rw [cl], by omega, fun j hj => ?_⟩
      rw [csT_at (dep z) j hj]
      exact q1 j (by omega)
