/-! trim of the reference: its loop over the barges. -/
theorem m_insertL {b m : Nat} {k0 p0 s0 y0 g0 : Nat → Int32} (hm : m < 12) (hb : b ≤ m) : ∀ (r i n : Nat) (k p s y g : Nat → Int32), b + r = i → i ≤ m → r < n → (∀ j, k j = k0 (if i < j ∧ j ≤ m then j - 1 else j) ∧ p j = p0 (if i < j ∧ j ≤ m then j - 1 else j) ∧ s j = s0 (if i < j ∧ j ≤ m then j - 1 else j) ∧ y j = y0 (if i < j ∧ j ≤ m then j - 1 else j) ∧ g j = g0 (if i < j ∧ j ≤ m then j - 1 else j)) →
    ∃ k' p' s' y' g', f_BargeBasinModel_insert_L5 (nI b) n (nI i) k p s y g = some (k', p', s', y', g') ∧ ∀ j, k' j = k0 (if b < j ∧ j ≤ m then j - 1 else j) ∧ p' j = p0 (if b < j ∧ j ≤ m then j - 1 else j) ∧ s' j = s0 (if b < j ∧ j ≤ m then j - 1 else j) ∧ y' j = y0 (if b < j ∧ j ≤ m then j - 1 else j) ∧ g' j = g0 (if b < j ∧ j ≤ m then j - 1 else j) := by
  intro r
  induction r with
  | zero =>
    intro i n k p s y g h1 h2 h3 h4
    obtain ⟨n, rfl⟩ : ∃ z, n = z + 1 := ⟨n - 1, by omega⟩
    have e : i = b := by omega
    subst e
    exact ⟨k, p, s, y, g, by rw [f_BargeBasinModel_insert_L5, if_pos (nI_le (Nat.le_refl _) (by omega))], h4⟩
  | succ r ih =>
    intro i n k p s y g h1 h2 h3 h4
    obtain ⟨n, rfl⟩ : ∃ z, n = z + 1 := ⟨n - 1, by omega⟩
    obtain ⟨c, rfl⟩ : ∃ c, i = c + 1 := ⟨i - 1, by omega⟩
    have e1 : nI (c + 1) - 1 = nI c := nI_subE (a := c + 1) (b := 1) (by omega)
    rw [f_BargeBasinModel_insert_L5, if_neg (nI_ge (show b < c + 1 by omega) (by omega)), e1, nI_m1]
    simp only [ev_grdN _ (show c < 12 by omega) (show 12 < 2 ^ 31 by decide), ev_grdN _ (show c + 1 < 12 by omega) (show 12 < 2 ^ 31 by decide), cl_nI (show c < 12 by omega), cl_nI (show c + 1 < 12 by omega), ev_bnd]
    refine ih c n _ _ _ _ _ (by omega) (by omega) (by omega) (fun j => ?_)
    by_cases z : j = c + 1
    · subst z
      rw [pk_us, pk_us, pk_us, pk_us, pk_us, if_pos (by omega)]
      obtain ⟨q1, q2, q3, q4, q5⟩ := h4 c
      rw [if_neg (by omega)] at q1 q2 q3 q4 q5
      exact ⟨q1, q2, q3, q4, q5⟩
    · rw [pk_un z, pk_un z, pk_un z, pk_un z, pk_un z]
      have e : (if c < j ∧ j ≤ m then j - 1 else j) = (if c + 1 < j ∧ j ≤ m then j - 1 else j) := by
        by_cases w : c + 1 < j ∧ j ≤ m
        · rw [if_pos w, if_pos (by omega)]
        · rw [if_neg w, if_neg (by omega)]
      rw [e]
      exact h4 j
theorem m_back {X : BP} {b : Nat} {khas kw kh kn : Int32} {kwl kk kat ks ky kg kk1 kat1 ks1 ky1 kg1 : Nat → Int32} (h : okX X) (hb : b < bn X.1) (hr : rfX X.1 X.2 khas kw kh kn kwl kk kat ks ky kg) (hd : rfX (dropB X.1 b) (dropP X.2 b) khas kw kh (nI (bn X.1 - 1)) kwl kk1 kat1 ks1 ky1 kg1) :
    ∃ kk2 kat2 ks2 ky2 kg2, f_BargeBasinModel_insert (nI b) (nI (bn X.1 - 1)) kk1 kat1 ks1 ky1 kg1 = some (nI (bn X.1), kk2, kat2, ks2, ky2, kg2) ∧ rfX X.1 X.2 khas kw kh kn kwl (upd kk2 b (kk b)) (upd kat2 b (kat b)) (upd ks2 b (ks b)) (upd ky2 b (ky b)) (upd kg2 b (kg b)) := by
  obtain ⟨r1, r2, r3, r4, r5, r6, r7, r8⟩ := hr
  obtain ⟨-, -, -, -, -, q6, q7, q8⟩ := hd
  have n12 := h.1.2.2.2.2.1
  obtain ⟨k', p', s', y', g', e, q⟩ := m_insertL (b := b) (m := bn X.1 - 1) (k0 := kk1) (p0 := kat1) (s0 := ks1) (y0 := ky1) (g0 := kg1) (by omega) (by omega) (bn X.1 - 1 - b) (bn X.1 - 1) jN kk1 kat1 ks1 ky1 kg1 (by omega) (Nat.le_refl _) (by show _ < 2000000; omega) (fun j => by
    rw [if_neg (by omega)]; exact ⟨rfl, rfl, rfl, rfl, rfl⟩)
  have dn : bn (dropB X.1 b) = bn X.1 - 1 := rfl
  have ix : ∀ j, j < bn X.1 → j ≠ b → ∃ i, i < bn X.1 - 1 ∧ (if b < j ∧ j ≤ bn X.1 - 1 then j - 1 else j) = i ∧ sk b i = j := by
    intro j hj hn
    by_cases z : b < j
    · refine ⟨j - 1, by omega, if_pos (by omega), ?_⟩
      unfold sk; rw [if_neg (by omega)]; omega
    · refine ⟨j, by omega, if_neg (by omega), ?_⟩
      unfold sk; rw [if_pos (by omega)]
  refine ⟨k', p', s', y', g', ?_, r1, r2, r3, r4, r5, fun j hj => ?_, fun j hj => ?_, fun j hj e5 => ?_⟩
  · unfold f_BargeBasinModel_insert
    rw [ev_b _ e, un5_ap, ev_bnd, nI_1, show bn X.1 - 1 + 1 = bn X.1 by omega]
  · by_cases z : j = b
    · subst z; rw [pk_us, pk_us, pk_us]; exact r6 j hj
    · obtain ⟨i, i1, i2, i3⟩ := ix j hj z
      obtain ⟨w1, w2, w3, w4, w5⟩ := q j
      rw [pk_un z, pk_un z, pk_un z, w1, w3, w4, i2]
      have := q6 i i1
      have e1 : bK (dropB X.1 b) i = bK X.1 (sk b i) := rfl
      have e2 : bS (dropB X.1 b) i = bS X.1 (sk b i) := rfl
      have e3 : bY (dropB X.1 b) i = bY X.1 (sk b i) := rfl
      rw [e1, e2, e3, i3] at this
      exact this
  · by_cases z : j = b
    · subst z; rw [pk_us]; exact r7 j hj
    · obtain ⟨i, i1, i2, i3⟩ := ix j hj z
      rw [pk_un z, (q j).2.1, i2]
      have := q7 i i1
      have e1 : dropP X.2 b i = X.2 (sk b i) := rfl
      rw [e1, i3] at this
      exact this
  · by_cases z : j = b
    · subst z; rw [pk_us]; exact r8 j hj e5
    · obtain ⟨i, i1, i2, i3⟩ := ix j hj z
      rw [pk_un z, (q j).2.2.2.2, i2]
      have e1 : bK (dropB X.1 b) i = bK X.1 (sk b i) := rfl
      have e2 : bG (dropB X.1 b) i = bG X.1 (sk b i) := rfl
      have := q8 i i1 (by rw [e1, i3]; exact e5)
      rw [e2, i3] at this
      exact this
theorem m_trimsBarge {X : BP} {b least : Nat} {khas kw kh kn : Int32} {kwl kk kat ks ky kg : Nat → Int32} (h : okX X) (hb : b < bn X.1) (hr : rfX X.1 X.2 khas kw kh kn kwl kk kat ks ky kg) (hle : least < 6000) (st ed : Int32) (kpl khd kch kdp kpr kbb kby kbs kf kfe ked keb kwho khe : Nat → Int32) :
    ∃ (tt : Bool) (kn' st' ed' : Int32) (kk' kat' ks' ky' kg' kpl' khd' kch' kdp' kpr' kbb' kby' kbs' kf' kfe' ked' keb' kwho' khe' : Nat → Int32), f_BargeBasinModel_trimsBarge (nI b) (nI least) kw kh kn st ed kwl kk kat ks ky kg kpl khd kch kdp kpr kbb kby kbs kf kfe ked keb kwho khe = some (bI tt, kn', st', ed', kk', kat', ks', ky', kg', kpl', khd', kch', kdp', kpr', kbb', kby', kbs', kf', kfe', ked', keb', kwho', khe') ∧ (tt = true ↔ hrdP (dropB X.1 b) (dropP X.2 b) least) ∧ rfX (if tt = true then (dropB X.1 b, dropP X.2 b) else X).1 (if tt = true then (dropB X.1 b, dropP X.2 b) else X).2 khas kw kh kn' kwl kk' kat' ks' ky' kg' := by
  have hr0 := hr
  obtain ⟨a1, a2, -⟩ := basOk_wh h.1 hb
  obtain ⟨kn1, kk1, kat1, ks1, ky1, kg1, e1, q1⟩ := m_remove h.1 hr hb
  have od := ok_drop h hb
  obtain ⟨r1, r2, r3, r4, r5, r6, r7, r8⟩ := hr
  have q1' := q1
  obtain ⟨p1, p2, p3, p4, p5, p6, p7, p8⟩ := q1
  have dn : bn (dropB X.1 b) = bn X.1 - 1 := rfl
  obtain ⟨s, st', ed', kpl', khd', kch', kdp', kpr', kbb', kby', kbs', kf', kfe', ked', keb', kwho', khe', e2, f1, -⟩ := m_farNow (least := least) od.1 od.2.1 p6 p5 p7 p8 hle st ed kpl khd kch kdp kpr kbb kby kbs kf kfe ked keb kwho khe
  have p2' : kw = nI (bw (dropB X.1 b, dropP X.2 b).1) := p2
  have p3' : kh = nI (bh (dropB X.1 b, dropP X.2 b).1) := p3
  have p4' : kn1 = nI (bn (dropB X.1 b, dropP X.2 b).1) := p4
  unfold f_BargeBasinModel_trimsBarge
  simp only [ev_grdN _ a1 (show 12 < 2 ^ 31 by decide), cl_nI a1, ev_bnd]
  rw [ev_b _ e1, un6_ap]
  rw [← p2', ← p3', ← p4'] at e2
  rw [ev_b _ e2, un17_ap]
  by_cases c : s < nI least
  · have kn1e : kn1 = nI (bn X.1 - 1) := p4
    rw [kn1e] at q1' ⊢
    obtain ⟨kk2, kat2, ks2, ky2, kg2, e3, q2⟩ := m_back h hb hr0 q1'
    rw [if_pos c, ev_b _ e3, un6_ap]
    exact ⟨false, nI (bn X.1), st', ed', _, _, _, _, _, kpl', khd', kch', kdp', kpr', kbb', kby', kbs', kf', kfe', ked', keb', kwho', khe', rfl, ⟨fun z => by (cases z), fun z => absurd c (f1.mpr z)⟩, by rw [r4] at q2; exact q2⟩
  · rw [if_neg c]
    exact ⟨true, kn1, st', ed', kk1, kat1, ks1, ky1, kg1, kpl', khd', kch', kdp', kpr', kbb', kby', kbs', kf', kfe', ked', keb', kwho', khe', rfl, ⟨fun _ => f1.mp c, fun _ => rfl⟩, q1'⟩
theorem m_trB {least : Nat} {khas kw kh : Int32} {kwl : Nat → Int32} (hle : least < 6000) : ∀ (b n : Nat) (X : BP) (v2 : Nat) (kn st ed : Int32) (kk kat ks ky kg : Nat → Int32) (kpl khd kch kdp kpr kbb kby kbs kf kfe ked keb kwho khe : Nat → Int32), b ≤ bn X.1 → b < n → okX X → rfX X.1 X.2 khas kw kh kn kwl kk kat ks ky kg →
    ∃ (v2' : Nat) (kn' st' ed' : Int32) (kk' kat' ks' ky' kg' kpl' khd' kch' kdp' kpr' kbb' kby' kbs' kf' kfe' ked' keb' kwho' khe' : Nat → Int32), f_BargeBasinModel_trim_L48 (nI least) kw kh kwl n (nI v2) (nI b + (-1)) kn st ed kk kat ks ky kg kpl khd kch kdp kpr kbb kby kbs kf kfe ked keb kwho khe = some (nI v2', kn', st', ed', kk', kat', ks', ky', kg', kpl', khd', kch', kdp', kpr', kbb', kby', kbs', kf', kfe', ked', keb', kwho', khe') ∧ v2' + bn (bT least b X).1 = v2 + bn X.1 ∧ rfX (bT least b X).1 (bT least b X).2 khas kw kh kn' kwl kk' kat' ks' ky' kg' := by
  intro b
  induction b with
  | zero =>
    intro n X v2 kn st ed kk kat ks ky kg kpl khd kch kdp kpr kbb kby kbs kf kfe ked keb kwho khe hb hn h hr
    obtain ⟨n, rfl⟩ : ∃ z, n = z + 1 := ⟨n - 1, by omega⟩
    refine ⟨v2, kn, st, ed, kk, kat, ks, ky, kg, kpl, khd, kch, kdp, kpr, kbb, kby, kbs, kf, kfe, ked, keb, kwho, khe, ?_, rfl, hr⟩
    rw [f_BargeBasinModel_trim_L48, if_pos (show nI 0 + (-1) < 0 by decide)]
  | succ b ih =>
    intro n X v2 kn st ed kk kat ks ky kg kpl khd kch kdp kpr kbb kby kbs kf kfe ked keb kwho khe hb hn h hr
    obtain ⟨n, rfl⟩ : ∃ z, n = z + 1 := ⟨n - 1, by omega⟩
    have hb' : b < bn X.1 := by omega
    have n12 := h.1.2.2.2.2.1
    obtain ⟨z1, z2, -⟩ := basOk_wh h.1 hb'
    have c5 : (nI (bK X.1 b) = 5) = (bK X.1 b = 5) := nI_eqL (j := 5) (by omega) (by decide)
    rw [nI_m1, f_BargeBasinModel_trim_L48, if_neg (nI_nn (by omega)), ev_grdN _ z1 (by decide), cl_nI z1, (hr.2.2.2.2.2.1 b hb').1]
    simp only [c5, ev_bnd]
    unfold bT
    by_cases k5 : bK X.1 b = 5
    · rw [if_pos k5, if_neg (fun z => z.1 k5)]
      exact ih n X v2 kn st ed kk kat ks ky kg kpl khd kch kdp kpr kbb kby kbs kf kfe ked keb kwho khe (by omega) (by omega) h hr
    · obtain ⟨tt, kn', st', ed', kk', kat', ks', ky', kg', kpl', khd', kch', kdp', kpr', kbb', kby', kbs', kf', kfe', ked', keb', kwho', khe', e1, t2, q⟩ := m_trimsBarge h hb' hr hle st ed kpl khd kch kdp kpr kbb kby kbs kf kfe ked keb kwho khe
      rw [if_neg k5, ev_b _ e1, un23_ap]
      cases tt with
      | false =>
        have nh : ¬ (bK X.1 b ≠ 5 ∧ hrdB (dropB X.1 b) (dropP X.2 b) least = true) := fun z => by have := t2.mpr (hrdB_t.mp z.2); cases this
        rw [if_pos (show bI false = 0 by decide), if_neg nh, show nI v2 + 0 = nI v2 from Int32.add_zero _]
        exact ih n X v2 kn' st' ed' kk' kat' ks' ky' kg' kpl' khd' kch' kdp' kpr' kbb' kby' kbs' kf' kfe' ked' keb' kwho' khe' (by omega) (by omega) h q
      | true =>
        have yh : bK X.1 b ≠ 5 ∧ hrdB (dropB X.1 b) (dropP X.2 b) least = true := ⟨k5, hrdB_t.mpr (t2.mp rfl)⟩
        have n1 : bn (dropB X.1 b) = bn X.1 - 1 := rfl
        rw [if_neg (show ¬ bI true = 0 by decide), if_pos yh, nI_1]
        obtain ⟨w2, kn2, st2, ed2, kk2, kat2, ks2, ky2, kg2, c1, c2, c3, c4, c5', c6, c7, c8, c9, c10, c11, c12, c13, c14, i1, i2, i3⟩ := ih n (dropB X.1 b, dropP X.2 b) (v2 + 1) kn' st' ed' kk' kat' ks' ky' kg' kpl' khd' kch' kdp' kpr' kbb' kby' kbs' kf' kfe' ked' keb' kwho' khe' (by show b ≤ bn (dropB X.1 b); omega) (by omega) (ok_drop h hb') q
        have i2' : w2 + bn (bT least b (dropB X.1 b, dropP X.2 b)).1 = v2 + 1 + bn (dropB X.1 b) := i2
        exact ⟨w2, kn2, st2, ed2, kk2, kat2, ks2, ky2, kg2, c1, c2, c3, c4, c5', c6, c7, c8, c9, c10, c11, c12, c13, c14, i1, by omega, i3⟩
