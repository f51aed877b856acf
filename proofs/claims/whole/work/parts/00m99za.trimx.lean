/-! trim of the reference: its loops over the walls. -/
theorem m_trX {least y : Nat} {X : BP} {khas kw kh kn v2 : Int32} {kk kat ks ky kg : Nat → Int32} (hle : least < 6000) (hX : okX X) (hy : y < bh X.1) : ∀ (r x n v3 : Nat) (st ed : Int32) (kwl : Nat → Int32) (kpl khd kch kdp kpr kbb kby kbs kf kfe ked keb kwho khe : Nat → Int32), x + r = bw X.1 → r < n → rfX (wT least (x + 8 * y) X).1 (wT least (x + 8 * y) X).2 khas kw kh kn kwl kk kat ks ky kg → v3 + nmF (bwl (wT least (x + 8 * y) X).1) 64 = nmF (bwl X.1) 64 →
    ∃ (v3' : Nat) (st' ed' : Int32) (kwl' kpl' khd' kch' kdp' kpr' kbb' kby' kbs' kf' kfe' ked' keb' kwho' khe' : Nat → Int32), f_BargeBasinModel_trim_L102 (nI least) v2 (nI y) kw kh kn kk kat ks ky kg n (nI v3) (nI x) st ed kwl kpl khd kch kdp kpr kbb kby kbs kf kfe ked keb kwho khe = some (nI v3', st', ed', kwl', kpl', khd', kch', kdp', kpr', kbb', kby', kbs', kf', kfe', ked', keb', kwho', khe') ∧ rfX (wT least (bw X.1 + 8 * y) X).1 (wT least (bw X.1 + 8 * y) X).2 khas kw kh kn kwl' kk kat ks ky kg ∧ v3' + nmF (bwl (wT least (bw X.1 + 8 * y) X).1) 64 = nmF (bwl X.1) 64 := by
  have w8 := hX.1.2.1
  have h8 := hX.1.2.2.2.1
  intro r
  induction r with
  | zero =>
    intro x n v3 st ed kwl kpl khd kch kdp kpr kbb kby kbs kf kfe ked keb kwho khe h1 h2 hr hv
    obtain ⟨n, rfl⟩ : ∃ z, n = z + 1 := ⟨n - 1, by omega⟩
    have e : x = bw X.1 := by omega
    subst e
    have kwe : kw = nI (bw X.1) := by rw [hr.2.1, (wT_ok hX _ (by omega)).2.1]
    refine ⟨v3, st, ed, kwl, kpl, khd, kch, kdp, kpr, kbb, kby, kbs, kf, kfe, ked, keb, kwho, khe, ?_, hr, hv⟩
    rw [f_BargeBasinModel_trim_L102, kwe, if_pos (nI_le (Nat.le_refl _) (by omega))]
  | succ r ih =>
    intro x n v3 st ed kwl kpl khd kch kdp kpr kbb kby kbs kf kfe ked keb kwho khe h1 h2 hr hv
    obtain ⟨n, rfl⟩ : ∃ z, n = z + 1 := ⟨n - 1, by omega⟩
    obtain ⟨q1, q2, q3, q4, q5, q6⟩ := wT_ok (least := least) hX (x + 8 * y) (by omega)
    have kwe : kw = nI (bw X.1) := by rw [hr.2.1, q2]
    have e' : nI x + (8 : Int32) * nI y = nI (x + 8 * y) := by rw [i8, nI_add]
    have sx : x + 1 + 8 * y = x + 8 * y + 1 := by omega
    obtain ⟨tt, st', ed', kwl', kpl', khd', kch', kdp', kpr', kbb', kby', kbs', kf', kfe', ked', keb', kwho', khe', e1, t2, q⟩ := m_trimsWall (f := x + 8 * y) q1 (by omega) hr hle st ed kpl khd kch kdp kpr kbb kby kbs kf kfe ked keb kwho khe
    rw [f_BargeBasinModel_trim_L102, if_neg (by rw [kwe]; exact nI_ge (show x < bw X.1 by omega) (by omega)), e', ev_b _ e1, un18_ap]
    simp only [ev_bnd, nI_1]
    cases tt with
    | false =>
      have hw := wT_n (least := least) (k := x + 8 * y) (X := X) (fun z => by have := t2.mpr ⟨z.1, hrdB_t.mp z.2⟩; cases this)
      rw [if_pos (show bI false = 0 by decide), show nI v3 + 0 = nI v3 from Int32.add_zero _]
      exact ih (x + 1) n v3 st' ed' kwl' kpl' khd' kch' kdp' kpr' kbb' kby' kbs' kf' kfe' ked' keb' kwho' khe' (by omega) (by omega) (by rw [sx, hw]; exact q) (by rw [sx, hw]; exact hv)
    | true =>
      obtain ⟨z1, z2⟩ := t2.mp rfl
      have hw := wT_y (least := least) (k := x + 8 * y) (X := X) ⟨z1, hrdB_t.mpr z2⟩
      have d : nmF (bwl (delW (wT least (x + 8 * y) X).1 (x + 8 * y))) 64 + 1 = nmF (bwl (wT least (x + 8 * y) X).1) 64 := nmF_del (by omega) z1
      rw [if_neg (show ¬ bI true = 0 by decide)]
      exact ih (x + 1) n (v3 + 1) st' ed' kwl' kpl' khd' kch' kdp' kpr' kbb' kby' kbs' kf' kfe' ked' keb' kwho' khe' (by omega) (by omega) (by rw [sx, hw]; exact q) (by
        rw [sx, hw]
        show v3 + 1 + nmF (bwl (delW (wT least (x + 8 * y) X).1 (x + 8 * y))) 64 = nmF (bwl X.1) 64
        omega)
theorem m_trY {least : Nat} {X : BP} {khas kw kh kn v2 : Int32} {kk kat ks ky kg : Nat → Int32} (hle : least < 6000) (hX : okX X) : ∀ (r y n v3 : Nat) (st ed : Int32) (kwl : Nat → Int32) (kpl khd kch kdp kpr kbb kby kbs kf kfe ked keb kwho khe : Nat → Int32), y + r = bh X.1 → r < n → rfX (wT least (8 * y) X).1 (wT least (8 * y) X).2 khas kw kh kn kwl kk kat ks ky kg → v3 + nmF (bwl (wT least (8 * y) X).1) 64 = nmF (bwl X.1) 64 →
    ∃ (v3' : Nat) (st' ed' : Int32) (kwl' kpl' khd' kch' kdp' kpr' kbb' kby' kbs' kf' kfe' ked' keb' kwho' khe' : Nat → Int32), f_BargeBasinModel_trim_L90 (nI least) v2 kw kh kn kk kat ks ky kg n (nI v3) (nI y) st ed kwl kpl khd kch kdp kpr kbb kby kbs kf kfe ked keb kwho khe = some (nI v3', st', ed', kwl', kpl', khd', kch', kdp', kpr', kbb', kby', kbs', kf', kfe', ked', keb', kwho', khe') ∧ rfX (wT least 64 X).1 (wT least 64 X).2 khas kw kh kn kwl' kk kat ks ky kg ∧ v3' + nmF (bwl (wT least 64 X).1) 64 = nmF (bwl X.1) 64 := by
  have w8 := hX.1.2.1
  have h8 := hX.1.2.2.2.1
  intro r
  induction r with
  | zero =>
    intro y n v3 st ed kwl kpl khd kch kdp kpr kbb kby kbs kf kfe ked keb kwho khe h1 h2 hr hv
    obtain ⟨n, rfl⟩ : ∃ z, n = z + 1 := ⟨n - 1, by omega⟩
    have e : y = bh X.1 := by omega
    subst e
    obtain ⟨q1, q2, q3, -⟩ := wT_ok (least := least) hX (8 * bh X.1) (by omega)
    have khq : kh = nI (bh X.1) := by rw [hr.2.2.1, q3]
    have sk := wT_skip (least := least) (X := X) (64 - 8 * bh X.1) (8 * bh X.1) (fun j h4 h5 => q1.2.2 j (by omega) (Or.inr (by rw [q3]; omega)))
    rw [show 8 * bh X.1 + (64 - 8 * bh X.1) = 64 by omega] at sk
    rw [sk]
    refine ⟨v3, st, ed, kwl, kpl, khd, kch, kdp, kpr, kbb, kby, kbs, kf, kfe, ked, keb, kwho, khe, ?_, hr, hv⟩
    rw [f_BargeBasinModel_trim_L90, khq, if_pos (nI_le (Nat.le_refl _) (by omega))]
  | succ r ih =>
    intro y n v3 st ed kwl kpl khd kch kdp kpr kbb kby kbs kf kfe ked keb kwho khe h1 h2 hr hv
    obtain ⟨n, rfl⟩ : ∃ z, n = z + 1 := ⟨n - 1, by omega⟩
    obtain ⟨q1, q2, q3, -⟩ := wT_ok (least := least) hX (8 * y) (by omega)
    have khq : kh = nI (bh X.1) := by rw [hr.2.2.1, q3]
    obtain ⟨v4, st', ed', kwl', kpl', khd', kch', kdp', kpr', kbb', kby', kbs', kf', kfe', ked', keb', kwho', khe', e1, e2, e3⟩ := m_trX (v2 := v2) hle hX (show y < bh X.1 by omega) (bw X.1) 0 jN v3 st ed kwl kpl khd kch kdp kpr kbb kby kbs kf kfe ked keb kwho khe (by omega) (by show bw X.1 < 2000000; omega) (by rw [Nat.zero_add]; exact hr) (by rw [Nat.zero_add]; exact hv)
    obtain ⟨z1, z2, z3, -⟩ := wT_ok (least := least) hX (bw X.1 + 8 * y) (by omega)
    have sk := wT_skip (least := least) (X := X) (8 - bw X.1) (bw X.1 + 8 * y) (fun j h4 h5 => z1.2.2 j (by omega) (Or.inl (by rw [z2]; omega)))
    rw [show bw X.1 + 8 * y + (8 - bw X.1) = 8 * (y + 1) by omega] at sk
    rw [f_BargeBasinModel_trim_L90, if_neg (by rw [khq]; exact nI_ge (show y < bh X.1 by omega) (by omega)), ev_b (x := f_BargeBasinModel_trim_L102 (nI least) v2 (nI y) kw kh kn kk kat ks ky kg jN (nI v3) 0 st ed kwl kpl khd kch kdp kpr kbb kby kbs kf kfe ked keb kwho khe) _ e1, un18_ap, ev_bnd, nI_1]
    exact ih (y + 1) n v4 st' ed' kwl' kpl' khd' kch' kdp' kpr' kbb' kby' kbs' kf' kfe' ked' keb' kwho' khe' (by omega) (by omega) (by rw [sk]; exact e2) (by rw [sk]; exact e3)
/-- trim's answer and what is left -/
def trX (X : BP) (least : Nat) : BP → Nat → Nat → Prop := fun Z v2 v3 => Z = wT least 64 (bT least (bn X.1) X) ∧ v2 + bn Z.1 = bn X.1 ∧ v3 + nmF (bwl Z.1) 64 = nmF (bwl X.1) 64
theorem m_trim {X : BP} {khas kw kh kn um rm : Int32} {kwl kk kat ks ky kg : Nat → Int32} {csort csize cnum lsort lmany lnum : Nat → Int32} (hX : okX X) (hr : rfX X.1 X.2 khas kw kh kn kwl kk kat ks ky kg) (st th sn ed : Int32) (kpl khd kch kdp kpr kbb kby kbs kf kfe ked keb kwho khe : Nat → Int32) :
    (∃ (st1 sn' ed' : Int32) (kpl' khd' kch' kdp' kpr' kbb' kby' kbs' kf' kfe' ked' keb' kwho' khe' : Nat → Int32), farX X.1 X.2 (-1) st1 ∧ st1 ≠ 0 ∧ f_BargeBasinModel_trim st th khas kw kh kn um rm sn ed lsort lmany lnum kwl kk kat ks ky kg kpl khd kch kdp kpr kbb kby kbs kf kfe ked keb kwho khe = some (-1, st1, 0, kn, um, rm, sn', ed', lsort, lmany, lnum, kwl, kk, kat, ks, ky, kg, kpl', khd', kch', kdp', kpr', kbb', kby', kbs', kf', kfe', ked', keb', kwho', khe')) ∨
    (∃ (least v2 v3 : Nat) (Z : BP) (b : Nat) (kn' sn' ed' : Int32) (lsort' lmany' lnum' kwl' kk' kat' ks' ky' kg' kpl' khd' kch' kdp' kpr' kbb' kby' kbs' kf' kfe' ked' keb' kwho' khe' : Nat → Int32), (FL X.1 7 X.2).length ≤ 6000 ∧ bstX X.1 X.2 b least ∧ least < 6000 ∧ trX X least Z v2 v3 ∧ f_BargeBasinModel_trim st th khas kw kh kn um rm sn ed lsort lmany lnum kwl kk kat ks ky kg kpl khd kch kdp kpr kbb kby kbs kf kfe ked keb kwho khe = some (nI (v2 + v3), 0, 0, kn', 0, 0, sn', ed', lsort', lmany', lnum', kwl', kk', kat', ks', ky', kg', kpl', khd', kch', kdp', kpr', kbb', kby', kbs', kf', kfe', ked', keb', kwho', khe') ∧ rfX Z.1 Z.2 khas kw kh kn' kwl' kk' kat' ks' ky' kg' ∧ ((v3 = 0 ∧ lsort' = lsort ∧ lmany' = lmany ∧ lnum' = lnum) ∨ (0 < v3 ∧ (∀ z, z < bh Z.1 → lsort' z = 0 ∧ lmany' z = nI (bw Z.1) ∧ ∀ i, i < bw Z.1 → lnum' (8 * z + i) = bI (bwl Z.1 (i + 8 * z))) ∧ (∀ z, bh Z.1 ≤ z → lmany' z = lmany z)))) := by
  have hr0 := hr
  obtain ⟨r1, r2, r3, r4, r5, r6, r7, r8⟩ := hr
  have n12 := hX.1.2.2.2.2.1
  obtain ⟨s, sn1, ed1, c1, c2, c3, c4, c5, c6, c7, c8, c9, c10, c11, c12, c13, c14, e1, -, f2⟩ := m_farNow (least := 0) hX.1 hX.2.1 r6 r5 r7 r8 (by decide) sn ed kpl khd kch kdp kpr kbb kby kbs kf kfe ked keb kwho khe
  rw [← r2, ← r3, ← r4] at e1
  unfold f_BargeBasinModel_trim
  rw [if_neg (show ¬ khas = 0 by rw [r1]; decide), ev_b _ e1, un17_ap]
  rcases f2 with ⟨y1, y2, y3⟩ | ⟨y1, b, least, y3, kl, y4⟩
  · rw [if_neg (fun z => by rw [Int32.le_iff_toInt_le] at z; rw [Int32.lt_iff_toInt_lt] at y1; omega)]
    exact Or.inl ⟨-s, sn1, ed1, c1, c2, c3, c4, c5, c6, c7, c8, c9, c10, c11, c12, c13, c14, y2, y3, rfl⟩
  · subst y4
    obtain ⟨v2, kn2, sn2, ed2, kk2, kat2, ks2, ky2, kg2, d1, d2, d3, d4, d5, d6, d7, d8, d9, d10, d11, d12, d13, d14, e2, e3, e4⟩ := m_trB (least := least) kl (bn X.1) jN X 0 kn sn1 ed1 kk kat ks ky kg c1 c2 c3 c4 c5 c6 c7 c8 c9 c10 c11 c12 c13 c14 (Nat.le_refl _) (by show bn X.1 < 2000000; omega) hX hr0
    obtain ⟨o1, o2, o3⟩ := ok_bT (least := least) (bn X.1) X (Nat.le_refl _) hX
    have h8 := o1.1.2.2.2.1
    obtain ⟨v3, sn3, ed3, kwl3, g1, g2, g3, g4, g5, g6, g7, g8, g9, g10, g11, g12, g13, g14, e5, e6, e7⟩ := m_trY (least := least) (v2 := nI v2) kl o1 (bh (bT least (bn X.1) X).1) 0 jN 0 sn2 ed2 kwl d1 d2 d3 d4 d5 d6 d7 d8 d9 d10 d11 d12 d13 d14 (by omega) (by show _ < 2000000; omega) e4 (Nat.zero_add _)
    obtain ⟨w1, w2, w3, w4, w5, w6⟩ := wT_ok (least := least) o1 64 (Nat.le_refl _)
    have kn1 : kn - 1 = nI (bn X.1) + (-1) := by rw [r4, Int32.sub_eq_add_neg]
    have tr : trX X least (wT least 64 (bT least (bn X.1) X)) v2 v3 := ⟨rfl, by rw [w4]; omega, by rw [e7, o2.2.2]⟩
    rw [if_pos (nI_pos' (by omega)), ev_bnd, kn1, ev_b (x := f_BargeBasinModel_trim_L48 (nI least) kw kh kwl jN 0 (nI (bn X.1) + (-1)) kn sn1 ed1 kk kat ks ky kg c1 c2 c3 c4 c5 c6 c7 c8 c9 c10 c11 c12 c13 c14) _ e2, un23_ap, ev_b (x := f_BargeBasinModel_trim_L90 (nI least) (nI v2) kw kh kn2 kk2 kat2 ks2 ky2 kg2 jN 0 0 sn2 ed2 kwl d1 d2 d3 d4 d5 d6 d7 d8 d9 d10 d11 d12 d13 d14) _ e5, un18_ap]
    have v64 : v3 ≤ 64 := by
      have : ∀ (p : Nat → Bool) n, nmF p n ≤ n := by
        intro p n
        induction n with
        | zero => exact Nat.le_refl _
        | succ n ih => unfold nmF; split <;> omega
      have := this (bwl (bT least (bn X.1) X).1) 64
      omega
    have v0 : (nI v3 ≤ 0) = (v3 ≤ 0) := nI_leE (b := 0) (by omega) (by decide)
    simp only [v0, nI_add]
    by_cases z : v3 ≤ 0
    · rw [if_pos z]
      exact Or.inr ⟨least, v2, v3, _, b, kn2, sn3, ed3, lsort, lmany, lnum, kwl3, kk2, kat2, ks2, ky2, kg2, g1, g2, g3, g4, g5, g6, g7, g8, g9, g10, g11, g12, g13, g14, y1, y3, kl, tr, rfl, e6, Or.inl ⟨by omega, rfl, rfl, rfl⟩⟩
    · obtain ⟨S, Zl, N, l1, l2, l3⟩ := m_linesByWalls w1.1 e6.2.2.2.2.1 lsort lmany lnum
      rw [if_neg z]
      have l1' : f_BargeBasinModel_linesByWalls kw kh lsort lmany lnum kwl3 = some (S, Zl, N) := by rw [e6.2.1, e6.2.2.1]; exact l1
      rw [ev_b _ l1', un3_ap]
      exact Or.inr ⟨least, v2, v3, _, b, kn2, sn3, ed3, S, Zl, N, kwl3, kk2, kat2, ks2, ky2, kg2, g1, g2, g3, g4, g5, g6, g7, g8, g9, g10, g11, g12, g13, g14, y1, y3, kl, tr, rfl, e6, Or.inr ⟨by omega, l2, l3⟩⟩
