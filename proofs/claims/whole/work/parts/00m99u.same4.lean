/-! same of the reference: isAs. -/
theorem m_asW {kwl : Nat → Int32} {p : Nat → Bool} (hn : ∀ f, f < 64 → kwl f = bI (p f)) : ∀ (r k n : Nat) (wl : Nat → Int32), k + r = 64 → r < n → (∀ f, f < k → wl f = bI (p f)) → ∃ N, f_BargeBasinModel_asItIs_L18 kwl n (nI k) wl = some N ∧ ∀ f, f < 64 → N f = bI (p f) := by
  intro r
  induction r with
  | zero =>
    intro k n wl h1 h2 h3
    obtain ⟨n, rfl⟩ : ∃ z, n = z + 1 := ⟨n - 1, by omega⟩
    have e : k = 64 := by omega
    subst e
    exact ⟨wl, by rw [f_BargeBasinModel_asItIs_L18, if_pos (show (64 : Int32) ≤ nI 64 by decide)], h3⟩
  | succ r ih =>
    intro k n wl h1 h2 h3
    obtain ⟨n, rfl⟩ : ∃ z, n = z + 1 := ⟨n - 1, by omega⟩
    rw [f_BargeBasinModel_asItIs_L18, if_neg (show ¬ (64 : Int32) ≤ nI k from nI_ge (b := 64) (by omega) (by decide)), ev_grdN _ (show k < 64 by omega) (by decide), ev_bnd, ev_grdN _ (show k < 64 by omega) (by decide), ev_bnd, nI_1, nI_clamp (show k < 2 ^ 31 by omega), hn k (by omega), nar_bI]
    exact ih (k + 1) n _ (by omega) (by omega) (fun f hf => by
      by_cases z : f = k
      · rw [z, pk_us]
      · rw [pk_un z]; exact h3 f (by omega))
theorem m_asB {X : BP} {kk kat ks ky kg : Nat → Int32} (h : basOk X.1) (hr : rfB X.1 kk ks ky) (hp : chP X.1 X.2 kat) (hg : chG X.1 kg) : ∀ (r b n : Nat) (p g y w t : Nat → Int32), b + r = bn X.1 → r < n → (∀ c, c < b → p c = nI (X.2 c) ∧ (bK X.1 c = 5 → g c = nI (bG X.1 c)) ∧ y c = nI (bY X.1 c) ∧ w c = nI (xW X.1 c) ∧ t c = nI (xH X.1 c)) →
    ∃ p' g' y' w' t', f_BargeBasinModel_asItIs_L44 (nI (bn X.1)) kk kat ks ky kg n (nI b) p g y w t = some (p', g', y', w', t') ∧ ∀ c, c < bn X.1 → p' c = nI (X.2 c) ∧ (bK X.1 c = 5 → g' c = nI (bG X.1 c)) ∧ y' c = nI (bY X.1 c) ∧ w' c = nI (xW X.1 c) ∧ t' c = nI (xH X.1 c) := by
  have n12 := h.2.2.2.2.1
  intro r
  induction r with
  | zero =>
    intro b n p g y w t h1 h2 h3
    obtain ⟨n, rfl⟩ : ∃ z, n = z + 1 := ⟨n - 1, by omega⟩
    have e : b = bn X.1 := by omega
    subst e
    exact ⟨p, g, y, w, t, by rw [f_BargeBasinModel_asItIs_L44, if_pos (nI_le (Nat.le_refl _) (by omega))], h3⟩
  | succ r ih =>
    intro b n p g y w t h1 h2 h3
    obtain ⟨n, rfl⟩ : ∃ z, n = z + 1 := ⟨n - 1, by omega⟩
    have hb : b < bn X.1 := by omega
    obtain ⟨a1, a2, a3, a4, a5, a6, a7, a8⟩ := basOk_wh h hb
    obtain ⟨m1, m2, m3⟩ := hr b hb
    rw [f_BargeBasinModel_asItIs_L44, if_neg (nI_ge hb (by omega))]
    simp only [ev_grdN _ a1 (show 12 < 2 ^ 31 by decide), cl_nI a1, ev_bnd, nI_1]
    rw [ev_b _ (m_wide a1 m1 m2 m3 a2 a3), ev_b _ (m_tall a1 m1 m2 m3 a2 a3)]
    refine ih (b + 1) n _ _ _ _ _ (by omega) (by omega) (fun c hc => ?_)
    by_cases z : c = b
    · subst z
      rw [pk_us, pk_us, pk_us, pk_us, pk_us]
      exact ⟨hp c hb, fun e => hg c hb e, m3, rfl, rfl⟩
    · rw [pk_un z, pk_un z, pk_un z, pk_un z, pk_un z]
      exact h3 c (by omega)
theorem m_asItIs {X : BP} {khas kw kh kn : Int32} {kwl kk kat ks ky kg : Nat → Int32} (hX : okX X) (hr : rfX X.1 X.2 khas kw kh kn kwl kk kat ks ky kg) (aw ah : Int32) (aat ag ay awd ata awl : Nat → Int32) :
    ∃ aw' ah' aat' ag' ay' awd' ata' awl', f_BargeBasinModel_asItIs kw kh kn aw ah kwl kk kat ks ky kg aat ag ay awd ata awl = some (aw', ah', aat', ag', ay', awd', ata', awl') ∧ asR X aw' ah' aat' ag' ay' awd' ata' awl' := by
  obtain ⟨r1, r2, r3, r4, r5, r6, r7, r8⟩ := hr
  subst r2; subst r3; subst r4
  have n12 := hX.1.2.2.2.2.1
  obtain ⟨N, n1, n2⟩ := m_asW r5 64 0 jN awl (by omega) (by show 64 < 2000000; omega) (fun f hf => by omega)
  obtain ⟨p, g, y, w, t, e1, e2⟩ := m_asB hX.1 r6 r7 r8 (bn X.1) 0 jN aat ag ay awd ata (by omega) (by show bn X.1 < 2000000; omega) (fun c hc => by omega)
  refine ⟨nI (bw X.1), nI (bh X.1), p, g, y, w, t, N, ?_, rfl, rfl, n2, fun c hc => (e2 c hc).1, fun c hc e => (e2 c hc).2.1 e, fun c hc => (e2 c hc).2.2⟩
  unfold f_BargeBasinModel_asItIs
  rw [ev_b (x := f_BargeBasinModel_asItIs_L18 kwl jN 0 awl) _ n1, ev_b (x := f_BargeBasinModel_asItIs_L44 (nI (bn X.1)) kk kat ks ky kg jN 0 aat ag ay awd ata) _ e1, un5_ap]
theorem m_hasLike {X K : BP} {k b : Nat} {iK kW kH kN kWl kK kA kS kY kG kk ks aat ag ay : Nat → Int32} (hX : okX X) (hK : okX K) (hk4 : k < 4) (hn : bn X.1 = bn K.1) (kp : kpR K.1 K.2 k iK kW kH kN kWl kK kA kS kY kG) (hk : ∀ c, c < bn X.1 → kk c = nI (bK X.1 c) ∧ ks c = nI (bS X.1 c)) (hp : chP X.1 X.2 aat) (hg : chG X.1 ag) (hy : ∀ c, c < bn X.1 → ay c = nI (bY X.1 c)) (hb : b < bn X.1) :
    ∃ t, f_BargeBasinModel_hasLike (nI k) (nI b) (nI (bn X.1)) kk ks kK kA kS kY kG aat ag ay = some (bI t) ∧ (t = true ↔ ∃ d, d < bn K.1 ∧ likeA X b K d) := by
  have n12 := hX.1.2.2.2.2.1
  obtain ⟨-, -, -, -, -, k6, k7, k8⟩ := kp
  obtain ⟨a1, a2, a3, a4, a5, a6, a7, a8⟩ := basOk_wh hX.1 hb
  have p1 := ins_64 hX.1 hX.2.1.1.1 hb
  obtain ⟨l1, -, -⟩ := hX.1.2.2.2.2.2.1 b hb
  have s1 : bS X.1 b < 5 := by unfold lenOk at l1; omega
  have loop : ∀ (r c n : Nat), c + r = bn X.1 → r < n → ∃ t, f_BargeBasinModel_hasLike_L5 (nI k) (nI b) (nI (bn X.1)) kk ks kK kA kS kY kG aat ag ay n (nI (12 * k + c)) = some (if t = true then .inl () else .inr ()) ∧ (t = true ↔ ∃ d, c ≤ d ∧ d < bn K.1 ∧ likeA X b K d) := by
    intro r
    induction r with
    | zero =>
      intro c n h1 h2
      obtain ⟨n, rfl⟩ : ∃ z, n = z + 1 := ⟨n - 1, by omega⟩
      have e : c = bn X.1 := by omega
      subst e
      refine ⟨false, ?_, fun z => by (cases z), fun ⟨d, d1, d2, _⟩ => by omega⟩
      rw [f_BargeBasinModel_hasLike_L5, show (12 : Int32) * nI k = nI (12 * k) from pk_mul 12 k, nI_add, if_pos (nI_le (Nat.le_refl _) (by omega))]
      rfl
    | succ r ih =>
      intro c n h1 h2
      obtain ⟨n, rfl⟩ : ∃ z, n = z + 1 := ⟨n - 1, by omega⟩
      have hc : c < bn K.1 := by omega
      obtain ⟨b1, b2, b3, b4, b5, b6, b7, b8⟩ := basOk_wh hK.1 hc
      have p2 := ins_64 hK.1 hK.2.1.1.1 hc
      obtain ⟨l2, -, -⟩ := hK.1.2.2.2.2.2.1 c hc
      have s2 : bS K.1 c < 5 := by unfold lenOk at l2; omega
      obtain ⟨u, u1, u2⟩ := ih (c + 1) n (by omega) (by omega)
      have skip : ¬ likeA X b K c → ∃ t, f_BargeBasinModel_hasLike_L5 (nI k) (nI b) (nI (bn X.1)) kk ks kK kA kS kY kG aat ag ay n (nI (12 * k + c + 1)) = some (if t = true then .inl () else .inr ()) ∧ (t = true ↔ ∃ d, c ≤ d ∧ d < bn K.1 ∧ likeA X b K d) := by
        intro nl
        refine ⟨u, u1, u2.trans ⟨fun ⟨d, d1, d2, d3⟩ => ⟨d, by omega, d2, d3⟩, fun ⟨d, d1, d2, d3⟩ => ?_⟩⟩
        by_cases z : d = c
        · subst z; exact absurd d3 nl
        · exact ⟨d, by omega, d2, d3⟩
      have e1 : (nI (K.2 c) = nI (X.2 b)) = (K.2 c = X.2 b) := nI_eqL (by omega) (by omega)
      have e2 : (nI (bK K.1 c) = nI (bK X.1 b)) = (bK K.1 c = bK X.1 b) := nI_eqL (by omega) (by omega)
      have e3 : (nI (bS K.1 c) = nI (bS X.1 b)) = (bS K.1 c = bS X.1 b) := nI_eqL (by omega) (by omega)
      have e4 : (nI (bY K.1 c) = nI (bY X.1 b)) = (bY K.1 c = bY X.1 b) := nI_eqL (by omega) (by omega)
      have e5 : (nI (bK X.1 b) = 5) = (bK X.1 b = 5) := nI_eqL (j := 5) (by omega) (by decide)
      have g48 : 12 * k + c < 48 := by omega
      rw [f_BargeBasinModel_hasLike_L5, show (12 : Int32) * nI k = nI (12 * k) from pk_mul 12 k, nI_add, if_neg (nI_ge (show 12 * k + c < 12 * k + bn X.1 by omega) (by omega))]
      unfold f_BargeBasinModel_hasLike_J82 f_BargeBasinModel_hasLike_J83
      simp only [ev_grdN _ g48 (show 48 < 2 ^ 31 by decide), ev_grdN _ a1 (show 12 < 2 ^ 31 by decide), cl_nI a1, nI_clamp (show 12 * k + c < 2 ^ 31 by omega), k7 c hc, hp b hb, (k6 c hc).1, (k6 c hc).2.1, (k6 c hc).2.2, (hk b hb).1, (hk b hb).2, hy b hb, e1, e2, e3, e4, e5, ev_bnd, nI_1, if_true, show ¬ (1 : Int32) = 0 by decide, if_false]
      by_cases q1 : K.2 c = X.2 b
      · rw [if_pos q1]
        by_cases q2 : bK K.1 c = bK X.1 b
        · rw [if_pos q2]
          by_cases q3 : bS K.1 c = bS X.1 b
          · rw [if_pos q3]
            by_cases q4 : bY K.1 c = bY X.1 b
            · rw [if_pos q4]
              by_cases q5 : bK X.1 b = 5
              · have g1 := hX.1.2.2.2.2.2.2 b hb q5
                have g2 := hK.1.2.2.2.2.2.2 c hc (by rw [q2]; exact q5)
                have e6 : (nI (bG K.1 c) = nI (bG X.1 b)) = (bG K.1 c = bG X.1 b) := nI_eqL (by omega) (by omega)
                rw [if_pos q5, k8 c hc (by rw [q2]; exact q5), hg b hb q5]
                simp only [e6]
                by_cases q6 : bG K.1 c = bG X.1 b
                · rw [if_pos q6]; exact ⟨true, rfl, fun _ => ⟨c, Nat.le_refl _, hc, q1.symm, q2.symm, q3.symm, q4.symm, fun _ => q6.symm⟩, fun _ => rfl⟩
                · rw [if_neg q6]; exact skip (fun l => q6 (l.2.2.2.2 q5).symm)
              · rw [if_neg q5]; exact ⟨true, rfl, fun _ => ⟨c, Nat.le_refl _, hc, q1.symm, q2.symm, q3.symm, q4.symm, fun z => absurd z q5⟩, fun _ => rfl⟩
            · rw [if_neg q4]; exact skip (fun l => q4 l.2.2.2.1.symm)
          · rw [if_neg q3]; exact skip (fun l => q3 l.2.2.1.symm)
        · rw [if_neg q2]; exact skip (fun l => q2 l.2.1.symm)
      · rw [if_neg q1]; exact skip (fun l => q1 l.1.symm)
  obtain ⟨t, t1, t2⟩ := loop (bn X.1) 0 jN (by omega) (by show bn X.1 < 2000000; omega)
  refine ⟨t, ?_, t2.trans ⟨fun ⟨d, _, d2, d3⟩ => ⟨d, d2, d3⟩, fun ⟨d, d2, d3⟩ => ⟨d, Nat.zero_le _, d2, d3⟩⟩⟩
  unfold f_BargeBasinModel_hasLike
  rw [ev_bnd, show (12 : Int32) * nI k = nI (12 * k) from pk_mul 12 k, ev_b (x := f_BargeBasinModel_hasLike_L5 (nI k) (nI b) (nI (bn X.1)) kk ks kK kA kS kY kG aat ag ay jN (nI (12 * k))) _ t1]
  cases t <;> rfl
theorem m_isAs {X K : BP} {k : Nat} {iK kW kH kN kWl kK kA kS kY kG kk ks : Nat → Int32} {aw ah : Int32} {aat ag ay awd ata awl : Nat → Int32} (hX : okX X) (hK : okX K) (hk4 : k < 4) (kp : kpR K.1 K.2 k iK kW kH kN kWl kK kA kS kY kG) (hk : ∀ c, c < bn X.1 → kk c = nI (bK X.1 c) ∧ ks c = nI (bS X.1 c)) (ha : asR X aw ah aat ag ay awd ata awl) :
    ∃ t, f_BargeBasinModel_isAs (nI k) (nI (bn X.1)) aw ah kk ks kW kH kN kWl kK kA kS kY kG aat ag ay awl = some (bI t) ∧ (t = true ↔ smX X K) := by
  obtain ⟨r1, r2, r3, r4, r5, r6⟩ := ha
  subst r1; subst r2
  have kp0 := kp
  obtain ⟨k1, k2, k3, k4, k5, k6, k7, k8⟩ := kp
  have n12 := hX.1.2.2.2.2.1
  have m12 := hK.1.2.2.2.2.1
  have wX := hX.1.2.1
  have wK := hK.1.2.1
  have vX := hX.1.2.2.2.1
  have vK := hK.1.2.2.2.1
  have e1 : (nI (bw X.1) = nI (bw K.1)) = (bw X.1 = bw K.1) := nI_eqL (by omega) (by omega)
  have e2 : (nI (bh X.1) = nI (bh K.1)) = (bh X.1 = bh K.1) := nI_eqL (by omega) (by omega)
  have e3 : (nI (bn X.1) = nI (bn K.1)) = (bn X.1 = bn K.1) := nI_eqL (by omega) (by omega)
  have lx : ∀ (y : Nat), y < 8 → ∀ (r x n : Nat), x + r = bw X.1 → r < n → ∃ t, f_BargeBasinModel_isAs_L53 (nI k) (nI y) (nI (bw X.1)) kWl awl n (nI x) = some (if t = true then .inr () else .inl ()) ∧ (t = true ↔ ∀ i, x ≤ i → i < bw X.1 → bwl X.1 (i + 8 * y) = bwl K.1 (i + 8 * y)) := by
    intro y hy r
    induction r with
    | zero =>
      intro x n h1 h2
      obtain ⟨n, rfl⟩ : ∃ z, n = z + 1 := ⟨n - 1, by omega⟩
      have e : x = bw X.1 := by omega
      subst e
      exact ⟨true, by rw [f_BargeBasinModel_isAs_L53, if_pos (nI_le (Nat.le_refl _) (by omega))]; rfl, fun _ i h3 h4 => by omega, fun _ => rfl⟩
    | succ r ih =>
      intro x n h1 h2
      obtain ⟨n, rfl⟩ : ∃ z, n = z + 1 := ⟨n - 1, by omega⟩
      have e' : nI x + (8 : Int32) * nI y = nI (x + 8 * y) := by rw [i8, nI_add]
      have e'' : (64 : Int32) * nI k + nI x + (8 : Int32) * nI y = nI (64 * k + (x + 8 * y)) := by rw [i8, show (64 : Int32) * nI k = nI (64 * k) from pk_mul 64 k, nI_add, nI_add, Nat.add_assoc]
      rw [f_BargeBasinModel_isAs_L53, if_neg (nI_ge (show x < bw X.1 by omega) (by omega)), e', e'']
      simp only [ev_grdN _ (show x + 8 * y < 64 by omega) (show 64 < 2 ^ 31 by decide), ev_grdN _ (show 64 * k + (x + 8 * y) < 256 by omega) (show 256 < 2 ^ 31 by decide), nI_clamp (show x + 8 * y < 2 ^ 31 by omega), nI_clamp (show 64 * k + (x + 8 * y) < 2 ^ 31 by omega), r3 _ (show x + 8 * y < 64 by omega), k5 _ (show x + 8 * y < 64 by omega), bI_eq, ev_bnd, nI_1]
      by_cases q : bwl X.1 (x + 8 * y) = bwl K.1 (x + 8 * y)
      · rw [if_pos q]
        obtain ⟨u, u1, u2⟩ := ih (x + 1) n (by omega) (by omega)
        refine ⟨u, u1, u2.trans ⟨fun z i h3 h4 => ?_, fun z i h3 h4 => z i (by omega) h4⟩⟩
        by_cases e : i = x
        · subst e; exact q
        · exact z i (by omega) h4
      · rw [if_neg q]; exact ⟨false, rfl, fun z => by (cases z), fun z => absurd (z x (Nat.le_refl _) (by omega)) q⟩
  have ly : ∀ (r y n : Nat), y + r = bh X.1 → r < n → ∃ t, f_BargeBasinModel_isAs_L43 (nI k) (nI (bw X.1)) (nI (bh X.1)) kWl awl n (nI y) = some (if t = true then .inr () else .inl ()) ∧ (t = true ↔ ∀ j, y ≤ j → j < bh X.1 → ∀ i, i < bw X.1 → bwl X.1 (i + 8 * j) = bwl K.1 (i + 8 * j)) := by
    intro r
    induction r with
    | zero =>
      intro y n h1 h2
      obtain ⟨n, rfl⟩ : ∃ z, n = z + 1 := ⟨n - 1, by omega⟩
      have e : y = bh X.1 := by omega
      subst e
      exact ⟨true, by rw [f_BargeBasinModel_isAs_L43, if_pos (nI_le (Nat.le_refl _) (by omega))]; rfl, fun _ j h3 h4 => by omega, fun _ => rfl⟩
    | succ r ih =>
      intro y n h1 h2
      obtain ⟨n, rfl⟩ : ∃ z, n = z + 1 := ⟨n - 1, by omega⟩
      obtain ⟨v, v1, v2⟩ := lx y (by omega) (bw X.1) 0 jN (by omega) (by show bw X.1 < 2000000; omega)
      rw [f_BargeBasinModel_isAs_L43, if_neg (nI_ge (show y < bh X.1 by omega) (by omega)), ev_b (x := f_BargeBasinModel_isAs_L53 (nI k) (nI y) (nI (bw X.1)) kWl awl jN 0) _ v1]
      cases v with
      | false => exact ⟨false, rfl, fun z => by (cases z), fun z => v2.mpr (fun i _ h4 => z y (Nat.le_refl _) (by omega) i h4)⟩
      | true =>
        obtain ⟨u, u1, u2⟩ := ih (y + 1) n (by omega) (by omega)
        rw [if_pos rfl, jsel_r, un0_ap, ev_bnd, nI_1]
        refine ⟨u, u1, u2.trans ⟨fun z j h3 h4 => ?_, fun z j h3 h4 => z j (by omega) h4⟩⟩
        by_cases e : j = y
        · subst e; exact fun i hi => v2.mp rfl i (Nat.zero_le _) hi
        · exact z j (by omega) h4
  unfold f_BargeBasinModel_isAs
  simp only [ev_grdN _ hk4 (show 4 < 2 ^ 31 by decide), nI_clamp (show k < 2 ^ 31 by omega), k2, k3, k4, e1, e2, e3]
  by_cases q1 : bw X.1 = bw K.1
  · rw [if_pos q1]
    by_cases q2 : bh X.1 = bh K.1
    · rw [if_pos q2]
      by_cases q3 : bn X.1 = bn K.1
      · rw [if_pos q3]
        obtain ⟨t, t1, t2⟩ := ly (bh X.1) 0 jN (by omega) (by show bh X.1 < 2000000; omega)
        rw [ev_b (x := f_BargeBasinModel_isAs_L43 (nI k) (nI (bw X.1)) (nI (bh X.1)) kWl awl jN 0) _ t1]
        have wl : t = true ↔ ∀ f, f < 64 → bwl X.1 f = bwl K.1 f := t2.trans ⟨fun z f hf => by
          by_cases q : bw X.1 ≤ f % 8 ∨ bh X.1 ≤ f / 8
          · rw [hX.2.2 f hf q, hK.2.2 f hf (by rw [← q1, ← q2]; exact q)]
          · have := z (f / 8) (Nat.zero_le _) (by omega) (f % 8) (by omega)
            rw [Nat.mod_add_div] at this
            exact this, fun z j _ hj i hi => z _ (by omega)⟩
        cases t with
        | false => exact ⟨false, rfl, fun z => by (cases z), fun z => wl.mpr z.2.2.2.1⟩
        | true =>
          have loop : ∀ (r b n : Nat), b + r = bn X.1 → r < n → ∃ t, f_BargeBasinModel_isAs_L107 (nI k) (nI (bn X.1)) kk ks kK kA kS kY kG aat ag ay n (nI b) = some (if t = true then .inr () else .inl ()) ∧ (t = true ↔ ∀ c, b ≤ c → c < bn X.1 → ∃ d, d < bn K.1 ∧ likeA X c K d) := by
            intro r
            induction r with
            | zero =>
              intro b n h1 h2
              obtain ⟨n, rfl⟩ : ∃ z, n = z + 1 := ⟨n - 1, by omega⟩
              have e : b = bn X.1 := by omega
              subst e
              exact ⟨true, by rw [f_BargeBasinModel_isAs_L107, if_pos (nI_le (Nat.le_refl _) (by omega))]; rfl, fun _ c h3 h4 => by omega, fun _ => rfl⟩
            | succ r ih =>
              intro b n h1 h2
              obtain ⟨n, rfl⟩ : ∃ z, n = z + 1 := ⟨n - 1, by omega⟩
              obtain ⟨v, v1, v2⟩ := m_hasLike (b := b) hX hK hk4 q3 kp0 hk r4 r5 (fun c hc => (r6 c hc).1) (by omega)
              rw [f_BargeBasinModel_isAs_L107, if_neg (nI_ge (show b < bn X.1 by omega) (by omega)), ev_b _ v1]
              cases v with
              | false => rw [if_pos (show bI false = 0 by decide)]; exact ⟨false, rfl, fun z => by (cases z), fun z => v2.mpr (z b (Nat.le_refl _) (by omega))⟩
              | true =>
                rw [if_neg (show ¬ bI true = 0 by decide), ev_bnd, nI_1]
                obtain ⟨u, u1, u2⟩ := ih (b + 1) n (by omega) (by omega)
                refine ⟨u, u1, u2.trans ⟨fun z c h3 h4 => ?_, fun z c h3 h4 => z c (by omega) h4⟩⟩
                by_cases e : c = b
                · subst e; exact v2.mp rfl
                · exact z c (by omega) h4
          obtain ⟨u, u1, u2⟩ := loop (bn X.1) 0 jN (by omega) (by show bn X.1 < 2000000; omega)
          rw [if_pos rfl, jsel_r, un0_ap, ev_b (x := f_BargeBasinModel_isAs_L107 (nI k) (nI (bn X.1)) kk ks kK kA kS kY kG aat ag ay jN 0) _ u1]
          refine ⟨u, by cases u <;> rfl, u2.trans ⟨fun z => ⟨q1, q2, q3, wl.mp rfl, fun b hb => z b (Nat.zero_le _) hb⟩, fun z b _ hb => z.2.2.2.2 b hb⟩⟩
      · rw [if_neg q3]; exact ⟨false, rfl, fun z => by (cases z), fun z => absurd z.2.2.1 q3⟩
    · rw [if_neg q2]; exact ⟨false, rfl, fun z => by (cases z), fun z => absurd z.2.1 q2⟩
  · rw [if_neg q1]; exact ⟨false, rfl, fun z => by (cases z), fun z => absurd z.1 q1⟩
