section
/-! trim of the reference: its loop over the barges. -/
theorem m_insertL {b m : Nat} {k0 p0 s0 y0 g0 : Nat → Int32} (hm : m < 12) (hb : b ≤ m) : ∀ (r i n : Nat) (k p s y g : Nat → Int32), b + r = i → i ≤ m → r < n → (∀ j, k j = k0 (if i < j ∧ j ≤ m then j - 1 else j) ∧ p j = p0 (if i < j ∧ j ≤ m then j - 1 else j) ∧ s j = s0 (if i < j ∧ j ≤ m then j - 1 else j) ∧ y j = y0 (if i < j ∧ j ≤ m then j - 1 else j) ∧ g j = g0 (if i < j ∧ j ≤ m then j - 1 else j)) →
    ∃ k₉ p₉ s₉ y₉ g₉, f_BargeBasinModel_insert_L5 (nI b) n (nI i) k p s y g = some (k₉, p₉, s₉, y₉, g₉) ∧ ∀ j, k₉ j = k0 (if b < j ∧ j ≤ m then j - 1 else j) ∧ p₉ j = p0 (if b < j ∧ j ≤ m then j - 1 else j) ∧ s₉ j = s0 (if b < j ∧ j ≤ m then j - 1 else j) ∧ y₉ j = y0 (if b < j ∧ j ≤ m then j - 1 else j) ∧ g₉ j = g0 (if b < j ∧ j ≤ m then j - 1 else j) := by
  intro r
  induction r with
  | zero =>
    intro i n k p s y g h1 h2 h3 h4
    obtain ⟨n, rfl⟩ : ∃ z, n = z + 1 := ⟨n - 1, by omega⟩
    have e : i = b := by omega
    subst e
    exact ⟨k, p, s, y, g, by rw [f_BargeBasinModel_insert_L5, if_pos (nI_le (Nat.le_refl _) (by omega))], h4⟩
  | succ r ih =>
    intro i n k p s y g h1 h2 h3 h4
    obtain ⟨n, rfl⟩ : ∃ z, n = z + 1 := ⟨n - 1, by omega⟩
    obtain ⟨c, rfl⟩ : ∃ c, i = c + 1 := ⟨i - 1, by omega⟩
    have e1 : nI (c + 1) - 1 = nI c := nI_subE (a := c + 1) (b := 1) (by omega)
    rw [f_BargeBasinModel_insert_L5, if_neg (nI_ge (show b < c + 1 by omega) (by omega)), e1, nI_m1]
    simp only [ev_grdN _ (show c < 12 by omega) (show 12 < 2 ^ 31 by decide), ev_grdN _ (show c + 1 < 12 by omega) (show 12 < 2 ^ 31 by decide), cl_nI (show c < 12 by omega), cl_nI (show c + 1 < 12 by omega), ev_bnd]
    refine ih c n _ _ _ _ _ (by omega) (by omega) (by omega) (fun j => ?_)
    by_cases z : j = c + 1
    · subst z
      rw [pk_us, pk_us, pk_us, pk_us, pk_us, if_pos (by omega)]
      obtain ⟨q1, q2, q3, q4, q5⟩ := h4 c
      rw [if_neg (by omega)] at q1 q2 q3 q4 q5
      exact ⟨q1, q2, q3, q4, q5⟩
    · rw [pk_un z, pk_un z, pk_un z, pk_un z, pk_un z]
      have e : (if c < j ∧ j ≤ m then j - 1 else j) = (if c + 1 < j ∧ j ≤ m then j - 1 else j) := by
        by_cases w : c + 1 < j ∧ j ≤ m
        · rw [if_pos w, if_pos (by omega)]
        · rw [if_neg w, if_neg (by omega)]
      rw [e]
      exact h4 j
theorem m_back {X : BP} {b : Nat} {khas kw kh kn : Int32} {kwl kk kat ks ky kg kk1 kat1 ks1 ky1 kg1 : Nat → Int32} (h : okX X) (hb : b < bn X.1) (hr : rfX X.1 X.2 khas kw kh kn kwl kk kat ks ky kg) (hd : rfX (dropB X.1 b) (dropP X.2 b) khas kw kh (nI (bn X.1 - 1)) kwl kk1 kat1 ks1 ky1 kg1) :
    ∃ kk2 kat2 ks2 ky2 kg2, f_BargeBasinModel_insert (nI b) (nI (bn X.1 - 1)) kk1 kat1 ks1 ky1 kg1 = some (nI (bn X.1), kk2, kat2, ks2, ky2, kg2) ∧ rfX X.1 X.2 khas kw kh kn kwl (upd kk2 b (kk b)) (upd kat2 b (kat b)) (upd ks2 b (ks b)) (upd ky2 b (ky b)) (upd kg2 b (kg b)) := by
  obtain ⟨r1, r2, r3, r4, r5, r6, r7, r8⟩ := hr
  obtain ⟨-, -, -, -, -, q6, q7, q8⟩ := hd
  have n12 := h.1.2.2.2.2.1
  obtain ⟨k₉, p₉, s₉, y₉, g₉, e, q⟩ := m_insertL (b := b) (m := bn X.1 - 1) (k0 := kk1) (p0 := kat1) (s0 := ks1) (y0 := ky1) (g0 := kg1) (by omega) (by omega) (bn X.1 - 1 - b) (bn X.1 - 1) jN kk1 kat1 ks1 ky1 kg1 (by omega) (Nat.le_refl _) (by show _ < 2000000; omega) (fun j => by
    rw [if_neg (by omega)]; exact ⟨rfl, rfl, rfl, rfl, rfl⟩)
  have dn : bn (dropB X.1 b) = bn X.1 - 1 := rfl
  have ix : ∀ j, j < bn X.1 → j ≠ b → ∃ i, i < bn X.1 - 1 ∧ (if b < j ∧ j ≤ bn X.1 - 1 then j - 1 else j) = i ∧ sk b i = j := by
    intro j hj hn
    by_cases z : b < j
    · refine ⟨j - 1, by omega, if_pos (by omega), ?_⟩
      unfold sk; rw [if_neg (by omega)]; omega
    · refine ⟨j, by omega, if_neg (by omega), ?_⟩
      unfold sk; rw [if_pos (by omega)]
  refine ⟨k₉, p₉, s₉, y₉, g₉, ?_, r1, r2, r3, r4, r5, fun j hj => ?_, fun j hj => ?_, fun j hj e5 => ?_⟩
  · unfold f_BargeBasinModel_insert
    rw [ev_b _ e, un5_ap, ev_bnd, nI_1, show bn X.1 - 1 + 1 = bn X.1 by omega]
  · by_cases z : j = b
    · subst z; rw [pk_us, pk_us, pk_us]; exact r6 j hj
    · obtain ⟨i, i1, i2, i3⟩ := ix j hj z
      obtain ⟨w1, w2, w3, w4, w5⟩ := q j
      rw [pk_un z, pk_un z, pk_un z, w1, w3, w4, i2]
      have := q6 i i1
      have e1 : bK (dropB X.1 b) i = bK X.1 (sk b i) := rfl
      have e2 : bS (dropB X.1 b) i = bS X.1 (sk b i) := rfl
      have e3 : bY (dropB X.1 b) i = bY X.1 (sk b i) := rfl
      rw [e1, e2, e3, i3] at this
      exact this
  · by_cases z : j = b
    · subst z; rw [pk_us]; exact r7 j hj
    · obtain ⟨i, i1, i2, i3⟩ := ix j hj z
      rw [pk_un z, (q j).2.1, i2]
      have := q7 i i1
      have e1 : dropP X.2 b i = X.2 (sk b i) := rfl
      rw [e1, i3] at this
      exact this
  · by_cases z : j = b
    · subst z; rw [pk_us]; exact r8 j hj e5
    · obtain ⟨i, i1, i2, i3⟩ := ix j hj z
      rw [pk_un z, (q j).2.2.2.2, i2]
      have e1 : bK (dropB X.1 b) i = bK X.1 (sk b i) := rfl
      have e2 : bG (dropB X.1 b) i = bG X.1 (sk b i) := rfl
      have := q8 i i1 (by rw [e1, i3]; exact e5)
      rw [e2, i3] at this
      exact this
theorem m_trimsBarge {X : BP} {b least : Nat} {khas kw kh kn : Int32} {kwl kk kat ks ky kg : Nat → Int32} (h : okX X) (hb : b < bn X.1) (hr : rfX X.1 X.2 khas kw kh kn kwl kk kat ks ky kg) (hle : least < 6000) (st ed : Int32) (kpl khd kch kdp kpr kbb kby kbs kf kfe ked keb kwho khe : Nat → Int32) :
    ∃ (tt : Bool) (kn₉ st₉ ed₉ : Int32) (kk₉ kat₉ ks₉ ky₉ kg₉ kpl₉ khd₉ kch₉ kdp₉ kpr₉ kbb₉ kby₉ kbs₉ kf₉ kfe₉ ked₉ keb₉ kwho₉ khe₉ : Nat → Int32), f_BargeBasinModel_trimsBarge (nI b) (nI least) kw kh kn st ed kwl kk kat ks ky kg kpl khd kch kdp kpr kbb kby kbs kf kfe ked keb kwho khe = some (bI tt, kn₉, st₉, ed₉, kk₉, kat₉, ks₉, ky₉, kg₉, kpl₉, khd₉, kch₉, kdp₉, kpr₉, kbb₉, kby₉, kbs₉, kf₉, kfe₉, ked₉, keb₉, kwho₉, khe₉) ∧ (tt = true ↔ hrdP (dropB X.1 b) (dropP X.2 b) least) ∧ rfX (if tt = true then (dropB X.1 b, dropP X.2 b) else X).1 (if tt = true then (dropB X.1 b, dropP X.2 b) else X).2 khas kw kh kn₉ kwl kk₉ kat₉ ks₉ ky₉ kg₉ := by
  have hr0 := hr
  obtain ⟨a1, a2, -⟩ := basOk_wh h.1 hb
  obtain ⟨kn1, kk1, kat1, ks1, ky1, kg1, e1, q1⟩ := m_remove h.1 hr hb
  have od := ok_drop h hb
  obtain ⟨r1, r2, r3, r4, r5, r6, r7, r8⟩ := hr
  have q1₉ := q1
  obtain ⟨p1, p2, p3, p4, p5, p6, p7, p8⟩ := q1
  have dn : bn (dropB X.1 b) = bn X.1 - 1 := rfl
  obtain ⟨s, st₉, ed₉, kpl₉, khd₉, kch₉, kdp₉, kpr₉, kbb₉, kby₉, kbs₉, kf₉, kfe₉, ked₉, keb₉, kwho₉, khe₉, e2, f1, -⟩ := m_farNow (least := least) od.1 od.2.1 p6 p5 p7 p8 hle st ed kpl khd kch kdp kpr kbb kby kbs kf kfe ked keb kwho khe
  have p2₉ : kw = nI (bw (dropB X.1 b, dropP X.2 b).1) := p2
  have p3₉ : kh = nI (bh (dropB X.1 b, dropP X.2 b).1) := p3
  have p4₉ : kn1 = nI (bn (dropB X.1 b, dropP X.2 b).1) := p4
  unfold f_BargeBasinModel_trimsBarge
  simp only [ev_grdN _ a1 (show 12 < 2 ^ 31 by decide), cl_nI a1, ev_bnd]
  rw [ev_b _ e1, un6_ap]
  rw [← p2₉, ← p3₉, ← p4₉] at e2
  rw [ev_b _ e2, un17_ap]
  by_cases c : s < nI least
  · have kn1e : kn1 = nI (bn X.1 - 1) := p4
    rw [kn1e] at q1₉ ⊢
    obtain ⟨kk2, kat2, ks2, ky2, kg2, e3, q2⟩ := m_back h hb hr0 q1₉
    rw [if_pos c, ev_b _ e3, un6_ap]
    exact ⟨false, nI (bn X.1), st₉, ed₉, _, _, _, _, _, kpl₉, khd₉, kch₉, kdp₉, kpr₉, kbb₉, kby₉, kbs₉, kf₉, kfe₉, ked₉, keb₉, kwho₉, khe₉, rfl, ⟨fun z => by (cases z), fun z => absurd c (f1.mpr z)⟩, by rw [r4] at q2; exact q2⟩
  · rw [if_neg c]
    exact ⟨true, kn1, st₉, ed₉, kk1, kat1, ks1, ky1, kg1, kpl₉, khd₉, kch₉, kdp₉, kpr₉, kbb₉, kby₉, kbs₉, kf₉, kfe₉, ked₉, keb₉, kwho₉, khe₉, rfl, ⟨fun _ => f1.mp c, fun _ => rfl⟩, q1₉⟩
theorem m_trB {least : Nat} {khas kw kh : Int32} {kwl : Nat → Int32} (hle : least < 6000) : ∀ (b n : Nat) (X : BP) (v2 : Nat) (kn st ed : Int32) (kk kat ks ky kg : Nat → Int32) (kpl khd kch kdp kpr kbb kby kbs kf kfe ked keb kwho khe : Nat → Int32), b ≤ bn X.1 → b < n → okX X → rfX X.1 X.2 khas kw kh kn kwl kk kat ks ky kg →
    ∃ (v2₉ : Nat) (kn₉ st₉ ed₉ : Int32) (kk₉ kat₉ ks₉ ky₉ kg₉ kpl₉ khd₉ kch₉ kdp₉ kpr₉ kbb₉ kby₉ kbs₉ kf₉ kfe₉ ked₉ keb₉ kwho₉ khe₉ : Nat → Int32), f_BargeBasinModel_trim_L48 (nI least) kw kh kwl n (nI v2) (nI b + (-1)) kn st ed kk kat ks ky kg kpl khd kch kdp kpr kbb kby kbs kf kfe ked keb kwho khe = some (nI v2₉, kn₉, st₉, ed₉, kk₉, kat₉, ks₉, ky₉, kg₉, kpl₉, khd₉, kch₉, kdp₉, kpr₉, kbb₉, kby₉, kbs₉, kf₉, kfe₉, ked₉, keb₉, kwho₉, khe₉) ∧ v2₉ + bn (bT least b X).1 = v2 + bn X.1 ∧ rfX (bT least b X).1 (bT least b X).2 khas kw kh kn₉ kwl kk₉ kat₉ ks₉ ky₉ kg₉ := by
  intro b
  induction b with
  | zero =>
    intro n X v2 kn st ed kk kat ks ky kg kpl khd kch kdp kpr kbb kby kbs kf kfe ked keb kwho khe hb hn h hr
    obtain ⟨n, rfl⟩ : ∃ z, n = z + 1 := ⟨n - 1, by omega⟩
    refine ⟨v2, kn, st, ed, kk, kat, ks, ky, kg, kpl, khd, kch, kdp, kpr, kbb, kby, kbs, kf, kfe, ked, keb, kwho, khe, ?_, rfl, hr⟩
    rw [f_BargeBasinModel_trim_L48, if_pos (show nI 0 + (-1) < 0 by decide)]
  | succ b ih =>
    intro n X v2 kn st ed kk kat ks ky kg kpl khd kch kdp kpr kbb kby kbs kf kfe ked keb kwho khe hb hn h hr
    obtain ⟨n, rfl⟩ : ∃ z, n = z + 1 := ⟨n - 1, by omega⟩
    have hb₉ : b < bn X.1 := by omega
    have n12 := h.1.2.2.2.2.1
    obtain ⟨z1, z2, -⟩ := basOk_wh h.1 hb₉
    have c5 : (nI (bK X.1 b) = 5) = (bK X.1 b = 5) := nI_eqL (j := 5) (by omega) (by decide)
    rw [nI_m1, f_BargeBasinModel_trim_L48, if_neg (nI_nn (by omega)), ev_grdN _ z1 (by decide), cl_nI z1, (hr.2.2.2.2.2.1 b hb₉).1]
    simp only [c5, ev_bnd]
    unfold bT
    by_cases k5 : bK X.1 b = 5
    · rw [if_pos k5, if_neg (fun z => z.1 k5)]
      exact ih n X v2 kn st ed kk kat ks ky kg kpl khd kch kdp kpr kbb kby kbs kf kfe ked keb kwho khe (by omega) (by omega) h hr
    · obtain ⟨tt, kn₉, st₉, ed₉, kk₉, kat₉, ks₉, ky₉, kg₉, kpl₉, khd₉, kch₉, kdp₉, kpr₉, kbb₉, kby₉, kbs₉, kf₉, kfe₉, ked₉, keb₉, kwho₉, khe₉, e1, t2, q⟩ := m_trimsBarge h hb₉ hr hle st ed kpl khd kch kdp kpr kbb kby kbs kf kfe ked keb kwho khe
      rw [if_neg k5, ev_b _ e1, un23_ap]
      cases tt with
      | false =>
        have nh : ¬ (bK X.1 b ≠ 5 ∧ hrdB (dropB X.1 b) (dropP X.2 b) least = true) := fun z => by have := t2.mpr (hrdB_t.mp z.2); cases this
        rw [if_pos (show bI false = 0 by decide), if_neg nh, show nI v2 + 0 = nI v2 from Int32.add_zero _]
        exact ih n X v2 kn₉ st₉ ed₉ kk₉ kat₉ ks₉ ky₉ kg₉ kpl₉ khd₉ kch₉ kdp₉ kpr₉ kbb₉ kby₉ kbs₉ kf₉ kfe₉ ked₉ keb₉ kwho₉ khe₉ (by omega) (by omega) h q
      | true =>
        have yh : bK X.1 b ≠ 5 ∧ hrdB (dropB X.1 b) (dropP X.2 b) least = true := ⟨k5, hrdB_t.mpr (t2.mp rfl)⟩
        have n1 : bn (dropB X.1 b) = bn X.1 - 1 := rfl
        rw [if_neg (show ¬ bI true = 0 by decide), if_pos yh, nI_1]
        obtain ⟨w2, kn2, st2, ed2, kk2, kat2, ks2, ky2, kg2, c1, c2, c3, c4, c5₉, c6, c7, c8, c9, c10, c11, c12, c13, c14, i1, i2, i3⟩ := ih n (dropB X.1 b, dropP X.2 b) (v2 + 1) kn₉ st₉ ed₉ kk₉ kat₉ ks₉ ky₉ kg₉ kpl₉ khd₉ kch₉ kdp₉ kpr₉ kbb₉ kby₉ kbs₉ kf₉ kfe₉ ked₉ keb₉ kwho₉ khe₉ (by show b ≤ bn (dropB X.1 b); omega) (by omega) (ok_drop h hb₉) q
        have i2₉ : w2 + bn (bT least b (dropB X.1 b, dropP X.2 b)).1 = v2 + 1 + bn (dropB X.1 b) := i2
        exact ⟨w2, kn2, st2, ed2, kk2, kat2, ks2, ky2, kg2, c1, c2, c3, c4, c5₉, c6, c7, c8, c9, c10, c11, c12, c13, c14, i1, by omega, i3⟩
end
section
/-! trim: its loop over the walls. -/
def delW (B : Bas) (f : Nat) : Bas := (bw B, bh B, bn B, bK B, bS B, bY B, bG B, fun g => if g = f then false else bwl B g)
theorem ok_del {X : BP} {f : Nat} (h : okX X) : okX (delW X.1 f, X.2) := by
  obtain ⟨h1, ⟨⟨s1, s2, s3⟩, s4⟩, h3⟩ := h
  refine ⟨h1, ⟨⟨s1, s2, fun b g hb hg e => ?_⟩, s4⟩, fun g hg q => ?_⟩
  · show (if g = f then false else bwl X.1 g) = false
    by_cases z : g = f
    · rw [if_pos z]
    · rw [if_neg z]; exact s3 b g hb hg e
  · show (if g = f then false else bwl X.1 g) = false
    by_cases z : g = f
    · rw [if_pos z]
    · rw [if_neg z]; exact h3 g hg q
/-- walls 0 .. k-1 are taken away where the basin stays as hard -/
noncomputable def wT (least : Nat) : Nat → BP → BP
  | 0, X => X
  | k + 1, X => if bwl (wT least k X).1 k = true ∧ hrdB (delW (wT least k X).1 k) (wT least k X).2 least = true then (delW (wT least k X).1 k, (wT least k X).2) else wT least k X
theorem wT_n {least k : Nat} {X : BP} (h : ¬ (bwl (wT least k X).1 k = true ∧ hrdB (delW (wT least k X).1 k) (wT least k X).2 least = true)) : wT least (k + 1) X = wT least k X := if_neg h
theorem wT_y {least k : Nat} {X : BP} (h : bwl (wT least k X).1 k = true ∧ hrdB (delW (wT least k X).1 k) (wT least k X).2 least = true) : wT least (k + 1) X = (delW (wT least k X).1 k, (wT least k X).2) := if_pos h
theorem nmF_del {p : Nat → Bool} {k : Nat} : ∀ {n : Nat}, k < n → p k = true → nmF (fun g => if g = k then false else p g) n + 1 = nmF p n
  | 0, h, _ => by omega
  | n + 1, h, e => by
    show nmF (fun g => if g = k then false else p g) n + (if (if n = k then false else p n) = true then 1 else 0) + 1 = nmF p n + (if p n = true then 1 else 0)
    by_cases z : n = k
    · subst z
      rw [if_pos rfl, e, nmF_cg (p := fun g => if g = n then false else p g) (q := p) (fun i hi => if_neg (by omega))]
      rfl
    · have i := nmF_del (p := p) (k := k) (n := n) (by omega) e
      rw [if_neg z]
      omega
theorem wT_ok {least : Nat} {X : BP} (h : okX X) : ∀ k, k ≤ 64 → okX (wT least k X) ∧ bw (wT least k X).1 = bw X.1 ∧ bh (wT least k X).1 = bh X.1 ∧ bn (wT least k X).1 = bn X.1 ∧ nmF (bwl (wT least k X).1) 64 ≤ nmF (bwl X.1) 64 ∧ (nmF (bwl (wT least k X).1) 64 = nmF (bwl X.1) 64 → wT least k X = X)
  | 0, _ => ⟨h, rfl, rfl, rfl, Nat.le_refl _, fun _ => rfl⟩
  | k + 1, hk => by
    obtain ⟨q1, q2, q3, q4, q5, q6⟩ := wT_ok (least := least) h k (by omega)
    by_cases c : bwl (wT least k X).1 k = true ∧ hrdB (delW (wT least k X).1 k) (wT least k X).2 least = true
    · rw [wT_y c]
      have d : nmF (bwl (delW (wT least k X).1 k)) 64 + 1 = nmF (bwl (wT least k X).1) 64 := nmF_del (by omega) c.1
      have d₉ : nmF (bwl (delW (wT least k X).1 k, (wT least k X).2).1) 64 + 1 = nmF (bwl (wT least k X).1) 64 := d
      exact ⟨ok_del q1, q2, q3, q4, by omega, fun z => by omega⟩
    · rw [wT_n c]; exact ⟨q1, q2, q3, q4, q5, q6⟩
theorem wT_skip {least : Nat} {X : BP} : ∀ (d k : Nat), (∀ j, k ≤ j → j < k + d → bwl (wT least k X).1 j = false) → wT least (k + d) X = wT least k X
  | 0, _, _ => rfl
  | d + 1, k, q => by
    have i := wT_skip (least := least) (X := X) d k (fun j h1 h2 => q j h1 (by omega))
    rw [← Nat.add_assoc, wT_n (fun z => by
      have z1 := z.1
      rw [i, q (k + d) (by omega) (by omega)] at z1
      cases z1), i]
theorem chX_wl {B C : Bas} {P : Nat → Nat} {cw chh cn : Int32} {cwl cwl₉ ct : Int64} {ck cp cl cg ca cwd chg : Nat → Int32} {cs : Nat → Int64} (hc : chX B P cw chh cn cwl ct ck cp cl cg ca cwd chg cs) (k : Nat) (hw : ∀ f, f < 64 → tb cwl₉ f = (if f = k then false else bwl B f)) : chX (delW B k) P cw chh cn cwl₉ ct ck cp cl cg ca cwd chg cs := by
  obtain ⟨x1, x2, x3, x4, x5, x6, x7, x8, x9⟩ := hc
  exact ⟨x1, x2, x3, hw, x5, x6, x7, x8, x9⟩
theorem s_trW {least : Nat} {X : BP} {v3 v4 cw chh cn : Int32} {ct : Int64} {ck cp cl cg ca cwd chg : Nat → Int32} {cs : Nat → Int64} (hle : least < 6000) (hX : okX X) : ∀ (r k n : Nat) (cwl : Int64) (b1 d1 c1 : Int32) (w1 t1 : Int64) (k1 p1 l1 g1 a1 wd1 hg1 : Nat → Int32) (s1 : Nat → Int64) (fo qd sp w0 h0 n0 : Int32) (wl0 t0 : Int64) (k0 p0 l0 g0 a0 wd0 hg0 : Nat → Int32) (s0 lo hi : Nat → Int64) (sl sf mv di qu : Nat → Int32), k + r = 64 → r < n → chX (wT least k X).1 (wT least k X).2 cw chh cn cwl ct ck cp cl cg ca cwd chg cs → schI fo sl sf →
    ∃ cwl₉ b1₉ d1₉ c1₉ w1₉ t1₉ k1₉ p1₉ l1₉ g1₉ a1₉ wd1₉ hg1₉ s1₉ fo₉ qd₉ sp₉ w0₉ h0₉ n0₉ wl0₉ t0₉ k0₉ p0₉ l0₉ g0₉ a0₉ wd0₉ hg0₉ s0₉ lo₉ hi₉ sl₉ sf₉ mv₉ di₉ qu₉, f_BargeBasin_trim_search11_L115 (nI least) v3 v4 cw chh cn ct ck cp cl cg ca cwd chg cs n (nI k) cwl b1 d1 c1 w1 t1 k1 p1 l1 g1 a1 wd1 hg1 s1 fo qd sp w0 h0 n0 wl0 t0 k0 p0 l0 g0 a0 wd0 hg0 s0 lo hi sl sf mv di qu = some (cwl₉, b1₉, d1₉, c1₉, w1₉, t1₉, k1₉, p1₉, l1₉, g1₉, a1₉, wd1₉, hg1₉, s1₉, fo₉, qd₉, sp₉, w0₉, h0₉, n0₉, wl0₉, t0₉, k0₉, p0₉, l0₉, g0₉, a0₉, wd0₉, hg0₉, s0₉, lo₉, hi₉, sl₉, sf₉, mv₉, di₉, qu₉) ∧ chX (wT least 64 X).1 (wT least 64 X).2 cw chh cn cwl₉ ct ck cp cl cg ca cwd chg cs ∧ schI fo₉ sl₉ sf₉ := by
  intro r
  induction r with
  | zero =>
    intro k n cwl b1 d1 c1 w1 t1 k1 p1 l1 g1 a1 wd1 hg1 s1 fo qd sp w0 h0 n0 wl0 t0 k0 p0 l0 g0 a0 wd0 hg0 s0 lo hi sl sf mv di qu h1 h2 hc hs
    obtain ⟨n, rfl⟩ : ∃ z, n = z + 1 := ⟨n - 1, by omega⟩
    have e : k = 64 := by omega
    subst e
    refine ⟨cwl, b1, d1, c1, w1, t1, k1, p1, l1, g1, a1, wd1, hg1, s1, fo, qd, sp, w0, h0, n0, wl0, t0, k0, p0, l0, g0, a0, wd0, hg0, s0, lo, hi, sl, sf, mv, di, qu, ?_, hc, hs⟩
    rw [f_BargeBasin_trim_search11_L115, if_pos (show (64 : Int32) ≤ nI 64 by decide)]
  | succ r ih =>
    intro k n cwl b1 d1 c1 w1 t1 k1 p1 l1 g1 a1 wd1 hg1 s1 fo qd sp w0 h0 n0 wl0 t0 k0 p0 l0 g0 a0 wd0 hg0 s0 lo hi sl sf mv di qu h1 h2 hc hs
    obtain ⟨n, rfl⟩ : ∃ z, n = z + 1 := ⟨n - 1, by omega⟩
    obtain ⟨q1, -⟩ := wT_ok (least := least) hX k (by omega)
    obtain ⟨k2, p2, l2, g2, a2₉, wd2, hg2, s2, e1, y1⟩ := cp_chX q1.1 hc b1 d1 c1 w1 t1 k1 p1 l1 g1 a1 wd1 hg1 s1
    rw [f_BargeBasin_trim_search11_L115, if_neg (show ¬ (64 : Int32) ≤ nI k from nI_ge (b := 64) (by omega) (by decide)), ev_b _ e1, un13_ap]
    simp only [ev_bnd, nI_1, cmpE]
    have wq : ∀ f, f < 64 → tb (cwl &&& (jlshl 1 (nI k) ^^^ (-1))) f = (if f = k then false else bwl (wT least k X).1 f) := by
      intro f hf
      rw [tb_and, tb_not hf, tb_one (by omega), hc.2.2.2.1 f hf]
      by_cases z : f = k
      · rw [if_pos z, decide_eq_true z]; simp
      · rw [if_neg z, decide_eq_false z]; simp
    cases ew : bwl (wT least k X).1 k with
    | false =>
      have eq : (cwl &&& (jlshl 1 (nI k) ^^^ (-1))) = cwl := tb_ext fun f hf => by
        rw [wq f hf, hc.2.2.2.1 f hf]
        by_cases z : f = k
        · rw [if_pos z, z, ew]
        · rw [if_neg z]
      rw [if_pos eq]
      have hw := wT_n (least := least) (k := k) (X := X) (fun z => by rw [ew] at z; cases z.1)
      exact ih (k + 1) n cwl _ _ _ _ _ _ _ _ _ _ _ _ _ _ _ _ _ _ _ _ _ _ _ _ _ _ _ _ _ _ _ _ _ _ _ _ (by omega) (by omega) (by rw [hw]; exact hc) hs
    | true =>
      have ne : ¬ (cwl &&& (jlshl 1 (nI k) ^^^ (-1))) = cwl := fun z => by
        have := wq k (by omega)
        rw [z, hc.2.2.2.1 k (by omega), ew, if_pos rfl] at this
        cases this
      have od := ok_del (f := k) q1
      obtain ⟨tt, fo₉, qd₉, sp₉, w0₉, h0₉, n0₉, wl0₉, t0₉, k0₉, p0₉, l0₉, g0₉, a0₉, wd0₉, hg0₉, s0₉, lo₉, hi₉, sl₉, sf₉, mv₉, di₉, qu₉, e3, sc, t2⟩ := s_stays od.1 od.2.1 (chX_wl (C := X.1) y1 k wq) hle hs qd sp w0 h0 n0 wl0 t0 k0 p0 l0 g0 a0 wd0 hg0 s0 lo hi mv di qu
      rw [if_neg ne, ev_b _ e3, un24_ap]
      cases tt with
      | false =>
        have hw := wT_n (least := least) (k := k) (X := X) (fun z => by have := t2.mpr (hrdB_t.mp z.2); cases this)
        rw [if_pos (show bI false = 0 by decide)]
        exact ih (k + 1) n cwl _ _ _ _ _ _ _ _ _ _ _ _ _ _ _ _ _ _ _ _ _ _ _ _ _ _ _ _ _ _ _ _ _ _ _ _ (by omega) (by omega) (by rw [hw]; exact hc) sc
      | true =>
        have hw := wT_y (least := least) (k := k) (X := X) ⟨ew, hrdB_t.mpr (t2.mp rfl)⟩
        rw [if_neg (show ¬ bI true = 0 by decide)]
        exact ih (k + 1) n _ _ _ _ _ _ _ _ _ _ _ _ _ _ _ _ _ _ _ _ _ _ _ _ _ _ _ _ _ _ _ _ _ _ _ _ _ (by omega) (by omega) (by rw [hw]; exact chX_wl (C := X.1) hc k wq) sc
theorem m_trimsWall {X : BP} {f least : Nat} {khas kw kh kn : Int32} {kwl kk kat ks ky kg : Nat → Int32} (h : okX X) (hf : f < 64) (hr : rfX X.1 X.2 khas kw kh kn kwl kk kat ks ky kg) (hle : least < 6000) (st ed : Int32) (kpl khd kch kdp kpr kbb kby kbs kf kfe ked keb kwho khe : Nat → Int32) :
    ∃ (tt : Bool) (st₉ ed₉ : Int32) (kwl₉ kpl₉ khd₉ kch₉ kdp₉ kpr₉ kbb₉ kby₉ kbs₉ kf₉ kfe₉ ked₉ keb₉ kwho₉ khe₉ : Nat → Int32), f_BargeBasinModel_trimsWall (nI f) (nI least) kw kh kn st ed kwl kk kat ks ky kg kpl khd kch kdp kpr kbb kby kbs kf kfe ked keb kwho khe = some (bI tt, st₉, ed₉, kwl₉, kpl₉, khd₉, kch₉, kdp₉, kpr₉, kbb₉, kby₉, kbs₉, kf₉, kfe₉, ked₉, keb₉, kwho₉, khe₉) ∧ (tt = true ↔ bwl X.1 f = true ∧ hrdP (delW X.1 f) X.2 least) ∧ rfX (if tt = true then (delW X.1 f, X.2) else X).1 (if tt = true then (delW X.1 f, X.2) else X).2 khas kw kh kn kwl₉ kk kat ks ky kg := by
  have hr0 := hr
  obtain ⟨r1, r2, r3, r4, r5, r6, r7, r8⟩ := hr
  unfold f_BargeBasinModel_trimsWall
  simp only [ev_grdN _ hf (show 64 < 2 ^ 31 by decide), nI_clamp (show f < 2 ^ 31 by omega), r5 f hf]
  cases ew : bwl X.1 f with
  | false =>
    rw [if_pos (show bI false = 0 by decide)]
    exact ⟨false, st, ed, kwl, kpl, khd, kch, kdp, kpr, kbb, kby, kbs, kf, kfe, ked, keb, kwho, khe, rfl, ⟨fun z => by (cases z), fun z => z.1⟩, hr0⟩
  | true =>
    have od := ok_del (f := f) h
    have rw₉ : rfW (delW X.1 f) (upd kwl f 0) := by
      intro g hg
      show _ = bI (if g = f then false else bwl X.1 g)
      by_cases z : g = f
      · rw [z, pk_us, if_pos rfl]; rfl
      · rw [pk_un z, if_neg z]; exact r5 g hg
    obtain ⟨s, st₉, ed₉, kpl₉, khd₉, kch₉, kdp₉, kpr₉, kbb₉, kby₉, kbs₉, kf₉, kfe₉, ked₉, keb₉, kwho₉, khe₉, e2, f1, -⟩ := m_farNow (least := least) (B := delW X.1 f) (P := X.2) (kk := kk) (kat := kat) (ks := ks) (ky := ky) (kg := kg) od.1 od.2.1 r6 rw₉ r7 r8 hle st ed kpl khd kch kdp kpr kbb kby kbs kf kfe ked keb kwho khe
    have p2₉ : kw = nI (bw (delW X.1 f)) := r2
    have p3₉ : kh = nI (bh (delW X.1 f)) := r3
    have p4₉ : kn = nI (bn (delW X.1 f)) := r4
    rw [← p2₉, ← p3₉, ← p4₉] at e2
    rw [if_neg (show ¬ bI true = 0 by decide), show vp_nar .boolean (0 : Int32) = 0 from nar_bI false, nar1, ev_b _ e2, un17_ap]
    by_cases c : s < nI least
    · rw [if_pos c]
      refine ⟨false, st₉, ed₉, upd (upd kwl f 0) f 1, kpl₉, khd₉, kch₉, kdp₉, kpr₉, kbb₉, kby₉, kbs₉, kf₉, kfe₉, ked₉, keb₉, kwho₉, khe₉, rfl, ⟨fun z => by (cases z), fun z => absurd c (f1.mpr z.2)⟩, r1, r2, r3, r4, fun g hg => ?_, r6, r7, r8⟩
      show upd (upd kwl f 0) f 1 g = bI (bwl X.1 g)
      by_cases z : g = f
      · rw [z, pk_us, ew]; rfl
      · rw [pk_un z, pk_un z]; exact r5 g hg
    · rw [if_neg c]
      exact ⟨true, st₉, ed₉, upd kwl f 0, kpl₉, khd₉, kch₉, kdp₉, kpr₉, kbb₉, kby₉, kbs₉, kf₉, kfe₉, ked₉, keb₉, kwho₉, khe₉, rfl, ⟨fun _ => ⟨rfl, f1.mp c⟩, fun _ => rfl⟩, r1, r2, r3, r4, rw₉, r6, r7, r8⟩
end
section
/-! trim of the reference: its loops over the walls. -/
theorem m_trX {least y : Nat} {X : BP} {khas kw kh kn v2 : Int32} {kk kat ks ky kg : Nat → Int32} (hle : least < 6000) (hX : okX X) (hy : y < bh X.1) : ∀ (r x n v3 : Nat) (st ed : Int32) (kwl : Nat → Int32) (kpl khd kch kdp kpr kbb kby kbs kf kfe ked keb kwho khe : Nat → Int32), x + r = bw X.1 → r < n → rfX (wT least (x + 8 * y) X).1 (wT least (x + 8 * y) X).2 khas kw kh kn kwl kk kat ks ky kg → v3 + nmF (bwl (wT least (x + 8 * y) X).1) 64 = nmF (bwl X.1) 64 →
    ∃ (v3₉ : Nat) (st₉ ed₉ : Int32) (kwl₉ kpl₉ khd₉ kch₉ kdp₉ kpr₉ kbb₉ kby₉ kbs₉ kf₉ kfe₉ ked₉ keb₉ kwho₉ khe₉ : Nat → Int32), f_BargeBasinModel_trim_L102 (nI least) v2 (nI y) kw kh kn kk kat ks ky kg n (nI v3) (nI x) st ed kwl kpl khd kch kdp kpr kbb kby kbs kf kfe ked keb kwho khe = some (nI v3₉, st₉, ed₉, kwl₉, kpl₉, khd₉, kch₉, kdp₉, kpr₉, kbb₉, kby₉, kbs₉, kf₉, kfe₉, ked₉, keb₉, kwho₉, khe₉) ∧ rfX (wT least (bw X.1 + 8 * y) X).1 (wT least (bw X.1 + 8 * y) X).2 khas kw kh kn kwl₉ kk kat ks ky kg ∧ v3₉ + nmF (bwl (wT least (bw X.1 + 8 * y) X).1) 64 = nmF (bwl X.1) 64 := by
  have w8 := hX.1.2.1
  have h8 := hX.1.2.2.2.1
  intro r
  induction r with
  | zero =>
    intro x n v3 st ed kwl kpl khd kch kdp kpr kbb kby kbs kf kfe ked keb kwho khe h1 h2 hr hv
    obtain ⟨n, rfl⟩ : ∃ z, n = z + 1 := ⟨n - 1, by omega⟩
    have e : x = bw X.1 := by omega
    subst e
    have kwe : kw = nI (bw X.1) := by rw [hr.2.1, (wT_ok hX _ (by omega)).2.1]
    refine ⟨v3, st, ed, kwl, kpl, khd, kch, kdp, kpr, kbb, kby, kbs, kf, kfe, ked, keb, kwho, khe, ?_, hr, hv⟩
    rw [f_BargeBasinModel_trim_L102, kwe, if_pos (nI_le (Nat.le_refl _) (by omega))]
  | succ r ih =>
    intro x n v3 st ed kwl kpl khd kch kdp kpr kbb kby kbs kf kfe ked keb kwho khe h1 h2 hr hv
    obtain ⟨n, rfl⟩ : ∃ z, n = z + 1 := ⟨n - 1, by omega⟩
    obtain ⟨q1, q2, q3, q4, q5, q6⟩ := wT_ok (least := least) hX (x + 8 * y) (by omega)
    have kwe : kw = nI (bw X.1) := by rw [hr.2.1, q2]
    have e₉ : nI x + (8 : Int32) * nI y = nI (x + 8 * y) := by rw [i8, nI_add]
    have sx : x + 1 + 8 * y = x + 8 * y + 1 := by omega
    obtain ⟨tt, st₉, ed₉, kwl₉, kpl₉, khd₉, kch₉, kdp₉, kpr₉, kbb₉, kby₉, kbs₉, kf₉, kfe₉, ked₉, keb₉, kwho₉, khe₉, e1, t2, q⟩ := m_trimsWall (f := x + 8 * y) q1 (by omega) hr hle st ed kpl khd kch kdp kpr kbb kby kbs kf kfe ked keb kwho khe
    rw [f_BargeBasinModel_trim_L102, if_neg (by rw [kwe]; exact nI_ge (show x < bw X.1 by omega) (by omega)), e₉, ev_b _ e1, un18_ap]
    simp only [ev_bnd, nI_1]
    cases tt with
    | false =>
      have hw := wT_n (least := least) (k := x + 8 * y) (X := X) (fun z => by have := t2.mpr ⟨z.1, hrdB_t.mp z.2⟩; cases this)
      rw [if_pos (show bI false = 0 by decide), show nI v3 + 0 = nI v3 from Int32.add_zero _]
      exact ih (x + 1) n v3 st₉ ed₉ kwl₉ kpl₉ khd₉ kch₉ kdp₉ kpr₉ kbb₉ kby₉ kbs₉ kf₉ kfe₉ ked₉ keb₉ kwho₉ khe₉ (by omega) (by omega) (by rw [sx, hw]; exact q) (by rw [sx, hw]; exact hv)
    | true =>
      obtain ⟨z1, z2⟩ := t2.mp rfl
      have hw := wT_y (least := least) (k := x + 8 * y) (X := X) ⟨z1, hrdB_t.mpr z2⟩
      have d : nmF (bwl (delW (wT least (x + 8 * y) X).1 (x + 8 * y))) 64 + 1 = nmF (bwl (wT least (x + 8 * y) X).1) 64 := nmF_del (by omega) z1
      rw [if_neg (show ¬ bI true = 0 by decide)]
      exact ih (x + 1) n (v3 + 1) st₉ ed₉ kwl₉ kpl₉ khd₉ kch₉ kdp₉ kpr₉ kbb₉ kby₉ kbs₉ kf₉ kfe₉ ked₉ keb₉ kwho₉ khe₉ (by omega) (by omega) (by rw [sx, hw]; exact q) (by
        rw [sx, hw]
        show v3 + 1 + nmF (bwl (delW (wT least (x + 8 * y) X).1 (x + 8 * y))) 64 = nmF (bwl X.1) 64
        omega)
theorem m_trY {least : Nat} {X : BP} {khas kw kh kn v2 : Int32} {kk kat ks ky kg : Nat → Int32} (hle : least < 6000) (hX : okX X) : ∀ (r y n v3 : Nat) (st ed : Int32) (kwl : Nat → Int32) (kpl khd kch kdp kpr kbb kby kbs kf kfe ked keb kwho khe : Nat → Int32), y + r = bh X.1 → r < n → rfX (wT least (8 * y) X).1 (wT least (8 * y) X).2 khas kw kh kn kwl kk kat ks ky kg → v3 + nmF (bwl (wT least (8 * y) X).1) 64 = nmF (bwl X.1) 64 →
    ∃ (v3₉ : Nat) (st₉ ed₉ : Int32) (kwl₉ kpl₉ khd₉ kch₉ kdp₉ kpr₉ kbb₉ kby₉ kbs₉ kf₉ kfe₉ ked₉ keb₉ kwho₉ khe₉ : Nat → Int32), f_BargeBasinModel_trim_L90 (nI least) v2 kw kh kn kk kat ks ky kg n (nI v3) (nI y) st ed kwl kpl khd kch kdp kpr kbb kby kbs kf kfe ked keb kwho khe = some (nI v3₉, st₉, ed₉, kwl₉, kpl₉, khd₉, kch₉, kdp₉, kpr₉, kbb₉, kby₉, kbs₉, kf₉, kfe₉, ked₉, keb₉, kwho₉, khe₉) ∧ rfX (wT least 64 X).1 (wT least 64 X).2 khas kw kh kn kwl₉ kk kat ks ky kg ∧ v3₉ + nmF (bwl (wT least 64 X).1) 64 = nmF (bwl X.1) 64 := by
  have w8 := hX.1.2.1
  have h8 := hX.1.2.2.2.1
  intro r
  induction r with
  | zero =>
    intro y n v3 st ed kwl kpl khd kch kdp kpr kbb kby kbs kf kfe ked keb kwho khe h1 h2 hr hv
    obtain ⟨n, rfl⟩ : ∃ z, n = z + 1 := ⟨n - 1, by omega⟩
    have e : y = bh X.1 := by omega
    subst e
    obtain ⟨q1, q2, q3, -⟩ := wT_ok (least := least) hX (8 * bh X.1) (by omega)
    have khq : kh = nI (bh X.1) := by rw [hr.2.2.1, q3]
    have sk := wT_skip (least := least) (X := X) (64 - 8 * bh X.1) (8 * bh X.1) (fun j h4 h5 => q1.2.2 j (by omega) (Or.inr (by rw [q3]; omega)))
    rw [show 8 * bh X.1 + (64 - 8 * bh X.1) = 64 by omega] at sk
    rw [sk]
    refine ⟨v3, st, ed, kwl, kpl, khd, kch, kdp, kpr, kbb, kby, kbs, kf, kfe, ked, keb, kwho, khe, ?_, hr, hv⟩
    rw [f_BargeBasinModel_trim_L90, khq, if_pos (nI_le (Nat.le_refl _) (by omega))]
  | succ r ih =>
    intro y n v3 st ed kwl kpl khd kch kdp kpr kbb kby kbs kf kfe ked keb kwho khe h1 h2 hr hv
    obtain ⟨n, rfl⟩ : ∃ z, n = z + 1 := ⟨n - 1, by omega⟩
    obtain ⟨q1, q2, q3, -⟩ := wT_ok (least := least) hX (8 * y) (by omega)
    have khq : kh = nI (bh X.1) := by rw [hr.2.2.1, q3]
    obtain ⟨v4, st₉, ed₉, kwl₉, kpl₉, khd₉, kch₉, kdp₉, kpr₉, kbb₉, kby₉, kbs₉, kf₉, kfe₉, ked₉, keb₉, kwho₉, khe₉, e1, e2, e3⟩ := m_trX (v2 := v2) hle hX (show y < bh X.1 by omega) (bw X.1) 0 jN v3 st ed kwl kpl khd kch kdp kpr kbb kby kbs kf kfe ked keb kwho khe (by omega) (by show bw X.1 < 2000000; omega) (by rw [Nat.zero_add]; exact hr) (by rw [Nat.zero_add]; exact hv)
    obtain ⟨z1, z2, z3, -⟩ := wT_ok (least := least) hX (bw X.1 + 8 * y) (by omega)
    have sk := wT_skip (least := least) (X := X) (8 - bw X.1) (bw X.1 + 8 * y) (fun j h4 h5 => z1.2.2 j (by omega) (Or.inl (by rw [z2]; omega)))
    rw [show bw X.1 + 8 * y + (8 - bw X.1) = 8 * (y + 1) by omega] at sk
    rw [f_BargeBasinModel_trim_L90, if_neg (by rw [khq]; exact nI_ge (show y < bh X.1 by omega) (by omega)), ev_b (x := f_BargeBasinModel_trim_L102 (nI least) v2 (nI y) kw kh kn kk kat ks ky kg jN (nI v3) 0 st ed kwl kpl khd kch kdp kpr kbb kby kbs kf kfe ked keb kwho khe) _ e1, un18_ap, ev_bnd, nI_1]
    exact ih (y + 1) n v4 st₉ ed₉ kwl₉ kpl₉ khd₉ kch₉ kdp₉ kpr₉ kbb₉ kby₉ kbs₉ kf₉ kfe₉ ked₉ keb₉ kwho₉ khe₉ (by omega) (by omega) (by rw [sk]; exact e2) (by rw [sk]; exact e3)
/-- trim's answer and what is left -/
def trX (X : BP) (least : Nat) : BP → Nat → Nat → Prop := fun Z v2 v3 => Z = wT least 64 (bT least (bn X.1) X) ∧ v2 + bn Z.1 = bn X.1 ∧ v3 + nmF (bwl Z.1) 64 = nmF (bwl X.1) 64
theorem m_trim {X : BP} {khas kw kh kn um rm : Int32} {kwl kk kat ks ky kg : Nat → Int32} {csort csize cnum lsort lmany lnum : Nat → Int32} (hX : okX X) (hr : rfX X.1 X.2 khas kw kh kn kwl kk kat ks ky kg) (st th sn ed : Int32) (kpl khd kch kdp kpr kbb kby kbs kf kfe ked keb kwho khe : Nat → Int32) :
    (∃ (st1 sn₉ ed₉ : Int32) (kpl₉ khd₉ kch₉ kdp₉ kpr₉ kbb₉ kby₉ kbs₉ kf₉ kfe₉ ked₉ keb₉ kwho₉ khe₉ : Nat → Int32), farX X.1 X.2 (-1) st1 ∧ st1 ≠ 0 ∧ f_BargeBasinModel_trim st th khas kw kh kn um rm sn ed lsort lmany lnum kwl kk kat ks ky kg kpl khd kch kdp kpr kbb kby kbs kf kfe ked keb kwho khe = some (-1, st1, 0, kn, um, rm, sn₉, ed₉, lsort, lmany, lnum, kwl, kk, kat, ks, ky, kg, kpl₉, khd₉, kch₉, kdp₉, kpr₉, kbb₉, kby₉, kbs₉, kf₉, kfe₉, ked₉, keb₉, kwho₉, khe₉)) ∨
    (∃ (least v2 v3 : Nat) (Z : BP) (b : Nat) (kn₉ sn₉ ed₉ : Int32) (lsort₉ lmany₉ lnum₉ kwl₉ kk₉ kat₉ ks₉ ky₉ kg₉ kpl₉ khd₉ kch₉ kdp₉ kpr₉ kbb₉ kby₉ kbs₉ kf₉ kfe₉ ked₉ keb₉ kwho₉ khe₉ : Nat → Int32), (FL X.1 7 X.2).length ≤ 6000 ∧ bstX X.1 X.2 b least ∧ least < 6000 ∧ trX X least Z v2 v3 ∧ f_BargeBasinModel_trim st th khas kw kh kn um rm sn ed lsort lmany lnum kwl kk kat ks ky kg kpl khd kch kdp kpr kbb kby kbs kf kfe ked keb kwho khe = some (nI (v2 + v3), 0, 0, kn₉, 0, 0, sn₉, ed₉, lsort₉, lmany₉, lnum₉, kwl₉, kk₉, kat₉, ks₉, ky₉, kg₉, kpl₉, khd₉, kch₉, kdp₉, kpr₉, kbb₉, kby₉, kbs₉, kf₉, kfe₉, ked₉, keb₉, kwho₉, khe₉) ∧ rfX Z.1 Z.2 khas kw kh kn₉ kwl₉ kk₉ kat₉ ks₉ ky₉ kg₉ ∧ ((v3 = 0 ∧ lsort₉ = lsort ∧ lmany₉ = lmany ∧ lnum₉ = lnum) ∨ (0 < v3 ∧ (∀ z, z < bh Z.1 → lsort₉ z = 0 ∧ lmany₉ z = nI (bw Z.1) ∧ ∀ i, i < bw Z.1 → lnum₉ (8 * z + i) = bI (bwl Z.1 (i + 8 * z))) ∧ (∀ z, bh Z.1 ≤ z → lmany₉ z = lmany z)))) := by
  have hr0 := hr
  obtain ⟨r1, r2, r3, r4, r5, r6, r7, r8⟩ := hr
  have n12 := hX.1.2.2.2.2.1
  obtain ⟨s, sn1, ed1, c1, c2, c3, c4, c5, c6, c7, c8, c9, c10, c11, c12, c13, c14, e1, -, f2⟩ := m_farNow (least := 0) hX.1 hX.2.1 r6 r5 r7 r8 (by decide) sn ed kpl khd kch kdp kpr kbb kby kbs kf kfe ked keb kwho khe
  rw [← r2, ← r3, ← r4] at e1
  unfold f_BargeBasinModel_trim
  rw [if_neg (show ¬ khas = 0 by rw [r1]; decide), ev_b _ e1, un17_ap]
  rcases f2 with ⟨y1, y2, y3⟩ | ⟨y1, b, least, y3, kl, y4⟩
  · rw [if_neg (fun z => by rw [Int32.le_iff_toInt_le] at z; rw [Int32.lt_iff_toInt_lt] at y1; omega)]
    exact Or.inl ⟨-s, sn1, ed1, c1, c2, c3, c4, c5, c6, c7, c8, c9, c10, c11, c12, c13, c14, y2, y3, rfl⟩
  · subst y4
    obtain ⟨v2, kn2, sn2, ed2, kk2, kat2, ks2, ky2, kg2, d1, d2, d3, d4, d5, d6, d7, d8, d9, d10, d11, d12, d13, d14, e2, e3, e4⟩ := m_trB (least := least) kl (bn X.1) jN X 0 kn sn1 ed1 kk kat ks ky kg c1 c2 c3 c4 c5 c6 c7 c8 c9 c10 c11 c12 c13 c14 (Nat.le_refl _) (by show bn X.1 < 2000000; omega) hX hr0
    obtain ⟨o1, o2, o3⟩ := ok_bT (least := least) (bn X.1) X (Nat.le_refl _) hX
    have h8 := o1.1.2.2.2.1
    obtain ⟨v3, sn3, ed3, kwl3, g1, g2, g3, g4, g5, g6, g7, g8, g9, g10, g11, g12, g13, g14, e5, e6, e7⟩ := m_trY (least := least) (v2 := nI v2) kl o1 (bh (bT least (bn X.1) X).1) 0 jN 0 sn2 ed2 kwl d1 d2 d3 d4 d5 d6 d7 d8 d9 d10 d11 d12 d13 d14 (by omega) (by show _ < 2000000; omega) e4 (Nat.zero_add _)
    obtain ⟨w1, w2, w3, w4, w5, w6⟩ := wT_ok (least := least) o1 64 (Nat.le_refl _)
    have kn1 : kn - 1 = nI (bn X.1) + (-1) := by rw [r4, Int32.sub_eq_add_neg]
    have tr : trX X least (wT least 64 (bT least (bn X.1) X)) v2 v3 := ⟨rfl, by rw [w4]; omega, by rw [e7, o2.2.2]⟩
    rw [if_pos (nI_pos' (by omega)), ev_bnd, kn1, ev_b (x := f_BargeBasinModel_trim_L48 (nI least) kw kh kwl jN 0 (nI (bn X.1) + (-1)) kn sn1 ed1 kk kat ks ky kg c1 c2 c3 c4 c5 c6 c7 c8 c9 c10 c11 c12 c13 c14) _ e2, un23_ap, ev_b (x := f_BargeBasinModel_trim_L90 (nI least) (nI v2) kw kh kn2 kk2 kat2 ks2 ky2 kg2 jN 0 0 sn2 ed2 kwl d1 d2 d3 d4 d5 d6 d7 d8 d9 d10 d11 d12 d13 d14) _ e5, un18_ap]
    have v64 : v3 ≤ 64 := by
      have : ∀ (p : Nat → Bool) n, nmF p n ≤ n := by
        intro p n
        induction n with
        | zero => exact Nat.le_refl _
        | succ n ih => unfold nmF; split <;> omega
      have := this (bwl (bT least (bn X.1) X).1) 64
      omega
    have v0 : (nI v3 ≤ 0) = (v3 ≤ 0) := nI_leE (b := 0) (by omega) (by decide)
    simp only [v0, nI_add]
    by_cases z : v3 ≤ 0
    · rw [if_pos z]
      exact Or.inr ⟨least, v2, v3, _, b, kn2, sn3, ed3, lsort, lmany, lnum, kwl3, kk2, kat2, ks2, ky2, kg2, g1, g2, g3, g4, g5, g6, g7, g8, g9, g10, g11, g12, g13, g14, y1, y3, kl, tr, rfl, e6, Or.inl ⟨by omega, rfl, rfl, rfl⟩⟩
    · obtain ⟨S, Zl, N, l1, l2, l3⟩ := m_linesByWalls w1.1 e6.2.2.2.2.1 lsort lmany lnum
      rw [if_neg z]
      have l1₉ : f_BargeBasinModel_linesByWalls kw kh lsort lmany lnum kwl3 = some (S, Zl, N) := by rw [e6.2.1, e6.2.2.1]; exact l1
      rw [ev_b _ l1₉, un3_ap]
      exact Or.inr ⟨least, v2, v3, _, b, kn2, sn3, ed3, S, Zl, N, kwl3, kk2, kat2, ks2, ky2, kg2, g1, g2, g3, g4, g5, g6, g7, g8, g9, g10, g11, g12, g13, g14, y1, y3, kl, tr, rfl, e6, Or.inr ⟨by omega, l2, l3⟩⟩
end
section
/-! trim of the class. -/
theorem nmF_le (p : Nat → Bool) : ∀ n, nmF p n ≤ n
  | 0 => Nat.le_refl _
  | n + 1 => by
    have := nmF_le p n
    unfold nmF
    split <;> omega
theorem s_trim_11 {X : BP} {cw chh cn : Int32} {cwl ct : Int64} {ck cp cl cg ca cwd chg : Nat → Int32} {cs : Nat → Int64} (hX : okX X) (hc : chX X.1 X.2 cw chh cn cwl ct ck cp cl cg ca cwd chg cs) (st ld lu : Int32) (csort csize cnum : Nat → Int32) (b1 d1 c1 : Int32) (w1 t1 : Int64) (k1 p1 l1 g1 a1 wd1 hg1 : Nat → Int32) (s1 : Nat → Int64) (fo qd sp w0 h0 n0 : Int32) (wl0 t0 : Int64) (k0 p0 l0 g0 a0 wd0 hg0 : Nat → Int32) (s0 lo hi : Nat → Int64) (sl sf mv di qu : Nat → Int32) (hs : schI fo sl sf) :
    (∃ (st1 : Int32) (fo₉ qd₉ sp₉ w0₉ h0₉ n0₉ : Int32) (wl0₉ t0₉ : Int64) (k0₉ p0₉ l0₉ g0₉ a0₉ wd0₉ hg0₉ : Nat → Int32) (s0₉ lo₉ hi₉ : Nat → Int64) (sl₉ sf₉ mv₉ di₉ qu₉ : Nat → Int32), farX X.1 X.2 (-1) st1 ∧ st1 ≠ 0 ∧ f_BargeBasin_trim_search11 st csort csize cnum cw chh cn cwl ct ck cp cl cg ca cwd chg cs b1 d1 c1 w1 t1 k1 p1 l1 g1 a1 wd1 hg1 s1 ld lu fo qd sp w0 h0 n0 wl0 t0 k0 p0 l0 g0 a0 wd0 hg0 s0 lo hi sl sf mv di qu = some (-1, st1, csort, csize, cnum, cn, cwl, ct, ck, cp, cl, cg, ca, cwd, chg, cs, b1, d1, c1, w1, t1, k1, p1, l1, g1, a1, wd1, hg1, s1, ld, lu, fo₉, qd₉, sp₉, w0₉, h0₉, n0₉, wl0₉, t0₉, k0₉, p0₉, l0₉, g0₉, a0₉, wd0₉, hg0₉, s0₉, lo₉, hi₉, sl₉, sf₉, mv₉, di₉, qu₉) ∧ schI fo₉ sl₉ sf₉) ∨
    (∃ (least v2 v3 : Nat) (Z : BP) (b : Nat) (csort₉ csize₉ cnum₉ : Nat → Int32) (cn₉ : Int32) (cwl₉ ct₉ : Int64) (ck₉ cp₉ cl₉ cg₉ ca₉ cwd₉ chg₉ : Nat → Int32) (cs₉ : Nat → Int64) (b1₉ d1₉ c1₉ : Int32) (w1₉ t1₉ : Int64) (k1₉ p1₉ l1₉ g1₉ a1₉ wd1₉ hg1₉ : Nat → Int32) (s1₉ : Nat → Int64) (fo₉ qd₉ sp₉ w0₉ h0₉ n0₉ : Int32) (wl0₉ t0₉ : Int64) (k0₉ p0₉ l0₉ g0₉ a0₉ wd0₉ hg0₉ : Nat → Int32) (s0₉ lo₉ hi₉ : Nat → Int64) (sl₉ sf₉ mv₉ di₉ qu₉ : Nat → Int32), (FL X.1 7 X.2).length ≤ 6000 ∧ bstX X.1 X.2 b least ∧ least < 6000 ∧ trX X least Z v2 v3 ∧ f_BargeBasin_trim_search11 st csort csize cnum cw chh cn cwl ct ck cp cl cg ca cwd chg cs b1 d1 c1 w1 t1 k1 p1 l1 g1 a1 wd1 hg1 s1 ld lu fo qd sp w0 h0 n0 wl0 t0 k0 p0 l0 g0 a0 wd0 hg0 s0 lo hi sl sf mv di qu = some (nI (v2 + v3), 0, csort₉, csize₉, cnum₉, cn₉, cwl₉, ct₉, ck₉, cp₉, cl₉, cg₉, ca₉, cwd₉, chg₉, cs₉, b1₉, d1₉, c1₉, w1₉, t1₉, k1₉, p1₉, l1₉, g1₉, a1₉, wd1₉, hg1₉, s1₉, 0, 0, fo₉, qd₉, sp₉, w0₉, h0₉, n0₉, wl0₉, t0₉, k0₉, p0₉, l0₉, g0₉, a0₉, wd0₉, hg0₉, s0₉, lo₉, hi₉, sl₉, sf₉, mv₉, di₉, qu₉) ∧ chX Z.1 Z.2 cw chh cn₉ cwl₉ ct₉ ck₉ cp₉ cl₉ cg₉ ca₉ cwd₉ chg₉ cs₉ ∧ schI fo₉ sl₉ sf₉ ∧ ((v3 = 0 ∧ csort₉ = csort ∧ csize₉ = csize ∧ cnum₉ = cnum) ∨ (0 < v3 ∧ (∀ z, z < bh Z.1 → csort₉ z = 0 ∧ csize₉ z = nI (bw Z.1) ∧ ∀ i, i < bw Z.1 → cnum₉ (8 * z + i) = bI (bwl Z.1 (i + 8 * z))) ∧ (∀ z, bh Z.1 ≤ z → z < 8 → csort₉ z = -1)))) := by
  have n12 := hX.1.2.2.2.2.1
  obtain ⟨r, fo2, qd2, sp2, w02, h02, n02, wl02, t02, k02, p02, l02, g02, a02, wd02, hg02, s02, lo2, hi2, sl2, sf2, mv2, di2, qu2, e, sc, q⟩ := s_fault11 (sg := false) (all := true) hX.1 hX.2.1 hc (most := 7) rfl hs qd sp w0 h0 n0 wl0 t0 k0 p0 l0 g0 a0 wd0 hg0 s0 lo hi mv di qu
  rw [show bI false = (0 : Int32) from rfl, show bI true = (1 : Int32) from rfl] at e
  unfold f_BargeBasin_trim_search11
  rw [ev_b _ e, un24_ap]
  rcases q with ⟨q1, q2⟩ | ⟨D, sx, q2⟩
  · subst q2
    rw [if_neg (show ¬ (10 : Int32) = 0 by decide)]
    exact Or.inl ⟨10, fo2, qd2, sp2, w02, h02, n02, wl02, t02, k02, p02, l02, g02, a02, wd02, hg02, s02, lo2, hi2, sl2, sf2, mv2, di2, qu2, Or.inl ⟨q1, rfl, rfl⟩, by decide, rfl, sc⟩
  · have sx₉ := sx
    obtain ⟨x1, x2, x3, x4, x5, x6, x7, x8, x9, x10, x11, x12⟩ := sx₉
    cases eb : bestO D (FL X.1 7 X.2).length with
    | none =>
      have : r = 11 := by rw [q2]; simp [eb]
      subst this
      rw [if_neg (show ¬ (11 : Int32) = 0 by decide)]
      exact Or.inl ⟨11, fo2, qd2, sp2, w02, h02, n02, wl02, t02, k02, p02, l02, g02, a02, wd02, hg02, s02, lo2, hi2, sl2, sf2, mv2, di2, qu2, Or.inr (Or.inl ⟨x1, (bst_none x2).mp eb, rfl, rfl⟩), by decide, rfl, sc⟩
    | some b =>
      have : r = 0 := by rw [q2]; simp [eb]
      subst this
      have l := bestO_lt eb
      have ft := s_farthest x1 x3 (fun u k hu e => by have := x4 u k hu e; omega)
      rw [eb, show (some b).bind D = D b from rfl, some_dv l.2] at ft
      rw [← x5] at ft
      have bx : bstX X.1 X.2 b (dvO D b) := ⟨D, x2, eb, some_dv l.2⟩
      have kl := bst_lt hX.1 hX.2.1 x1 bx
      generalize dvO D b = least at *
      have ft₉ : f_Search_farthest fo2 di2 = some (nI least) := ft
      have bc := s_bitCount hc.2.2.2.1
      have kn1 : cn - 1 = nI (bn X.1) + (-1) := by rw [hc.2.2.1, Int32.sub_eq_add_neg]
      obtain ⟨cn3, ct3, ck3, cp3, cl3, cg3, ca3, cwd3, chg3, cs3, b13, d13, c13, w13, t13, k13, p13, l13, g13, a13, wd13, hg13, s13, fo3, qd3, sp3, w03, h03, n03, wl03, t03, k03, p03, l03, g03, a03, wd03, hg03, s03, lo3, hi3, sl3, sf3, mv3, di3, qu3, e3, y3, sc3⟩ := s_trB (least := least) (v3 := cn) (v4 := nI (nmF (bwl X.1) 64)) kl (bn X.1) jN X cn ct ck cp cl cg ca cwd chg cs b1 d1 c1 w1 t1 k1 p1 l1 g1 a1 wd1 hg1 s1 fo2 qd2 sp2 w02 h02 n02 wl02 t02 k02 p02 l02 g02 a02 wd02 hg02 s02 lo2 hi2 sl2 sf2 mv2 di2 qu2 (Nat.le_refl _) (by show bn X.1 < 2000000; omega) hX hc sc
      obtain ⟨o1, o2, o3⟩ := ok_bT (least := least) (bn X.1) X (Nat.le_refl _) hX
      obtain ⟨cwl4, b14, d14, c14, w14, t14, k14, p14, l14, g14, a14, wd14, hg14, s14, fo4, qd4, sp4, w04, h04, n04, wl04, t04, k04, p04, l04, g04, a04, wd04, hg04, s04, lo4, hi4, sl4, sf4, mv4, di4, qu4, e4, y4, sc4⟩ := s_trW (least := least) (X := bT least (bn X.1) X) (v3 := cn) (v4 := nI (nmF (bwl X.1) 64)) kl o1 64 0 jN cwl b13 d13 c13 w13 t13 k13 p13 l13 g13 a13 wd13 hg13 s13 fo3 qd3 sp3 w03 h03 n03 wl03 t03 k03 p03 l03 g03 a03 wd03 hg03 s03 lo3 hi3 sl3 sf3 mv3 di3 qu3 (by omega) (by show 64 < 2000000; omega) y3 sc3
      obtain ⟨w1₉, w2, w3, w4, w5, w6⟩ := wT_ok (least := least) o1 64 (Nat.le_refl _)
      have bc4 := s_bitCount y4.2.2.2.1
      have nm : nmF (bwl (wT least 64 (bT least (bn X.1) X)).1) 64 ≤ nmF (bwl X.1) 64 := by rw [← o2.2.2]; exact w5
      have le64 := nmF_le (bwl X.1) 64
      rw [if_pos rfl, ev_b _ (show f_BargeBasin_searcher_search11 = some () from rfl), un0_ap, ev_b _ ft₉, ev_b _ bc, ev_bnd, kn1, ev_b _ e3]
      rw [un46_ap, ev_b (x := f_BargeBasin_trim_search11_L115 (nI least) cn (nI (nmF (bwl X.1) 64)) cw chh cn3 ct3 ck3 cp3 cl3 cg3 ca3 cwd3 chg3 cs3 jN 0 cwl b13 d13 c13 w13 t13 k13 p13 l13 g13 a13 wd13 hg13 s13 fo3 qd3 sp3 w03 h03 n03 wl03 t03 k03 p03 l03 g03 a03 wd03 hg03 s03 lo3 hi3 sl3 sf3 mv3 di3 qu3) _ e4, un37_ap, ev_b _ bc4, ev_bnd, nI_subE nm]
      generalize hZ : wT least 64 (bT least (bn X.1) X) = Z at *
      generalize hv : nmF (bwl X.1) 64 - nmF (bwl Z.1) 64 = v3 at *
      have tr : trX X least Z (bn X.1 - bn Z.1) v3 := ⟨hZ.symm, by rw [w4]; omega, by omega⟩
      have v0 : (nI v3 ≤ 0) = (v3 ≤ 0) := nI_leE (b := 0) (by omega) (by decide)
      have an : cn - cn3 + nI v3 = nI (bn X.1 - bn Z.1 + v3) := by rw [hc.2.2.1, y4.2.2.1, nI_subE (by rw [w4]; exact o3), nI_add]
      simp only [v0]
      by_cases z : v3 ≤ 0
      · rw [if_pos z]
        refine Or.inr ⟨least, bn X.1 - bn Z.1, v3, Z, b, csort, csize, cnum, cn3, cwl4, ct3, ck3, cp3, cl3, cg3, ca3, cwd3, chg3, cs3, b14, d14, c14, w14, t14, k14, p14, l14, g14, a14, wd14, hg14, s14, fo4, qd4, sp4, w04, h04, n04, wl04, t04, k04, p04, l04, g04, a04, wd04, hg04, s04, lo4, hi4, sl4, sf4, mv4, di4, qu4, x1, bx, kl, tr, ?_, y4, sc4, Or.inl ⟨by omega, rfl, rfl, rfl⟩⟩
        unfold f_BargeBasin_trim_search11_J230
        rw [an]
        rfl
      · obtain ⟨S, Zl, N, l1₉, l2₉, l3₉⟩ := s_showWalls w1₉.1 y4.2.2.2.1 csort csize cnum
        have l1₉₉ : f_Lines_showWalls csort csize cnum cw chh cwl4 = some (S, Zl, N) := by rw [y4.1, y4.2.1]; exact l1₉
        rw [if_neg z, ev_b _ l1₉₉, un3_ap]
        refine Or.inr ⟨least, bn X.1 - bn Z.1, v3, Z, b, S, Zl, N, cn3, cwl4, ct3, ck3, cp3, cl3, cg3, ca3, cwd3, chg3, cs3, b14, d14, c14, w14, t14, k14, p14, l14, g14, a14, wd14, hg14, s14, fo4, qd4, sp4, w04, h04, n04, wl04, t04, k04, p04, l04, g04, a04, wd04, hg04, s04, lo4, hi4, sl4, sf4, mv4, di4, qu4, x1, bx, kl, tr, ?_, y4, sc4, Or.inr ⟨by omega, l2₉, l3₉⟩⟩
        unfold f_BargeBasin_trim_search11_J230
        rw [an]
        rfl
end
section
/-! trim of the class where the search is made in the call. -/
theorem s_trB01 {least : Nat} {v3 v4 cw chh : Int32} {cwl : Int64} (hle : least < 6000) : ∀ (b n : Nat) (X : BP) (cn : Int32) (ct : Int64) (ck cp cl cg ca cwd chg : Nat → Int32) (cs : Nat → Int64) (b1 d1 c1 : Int32) (w1 t1 : Int64) (k1 p1 l1 g1 a1 wd1 hg1 : Nat → Int32) (s1 : Nat → Int64) (fo qd sp w0 h0 n0 : Int32) (wl0 t0 : Int64) (k0 p0 l0 g0 a0 wd0 hg0 : Nat → Int32) (s0 lo hi : Nat → Int64) (sl sf mv di qu : Nat → Int32), b ≤ bn X.1 → b < n → okX X → chX X.1 X.2 cw chh cn cwl ct ck cp cl cg ca cwd chg cs → schI fo sl sf →
    ∃ cn₉ ct₉ ck₉ cp₉ cl₉ cg₉ ca₉ cwd₉ chg₉ cs₉ b1₉ d1₉ c1₉ w1₉ t1₉ k1₉ p1₉ l1₉ g1₉ a1₉ wd1₉ hg1₉ s1₉ fo₉ qd₉ sp₉ w0₉ h0₉ n0₉ wl0₉ t0₉ k0₉ p0₉ l0₉ g0₉ a0₉ wd0₉ hg0₉ s0₉ lo₉ hi₉ sl₉ sf₉ mv₉ di₉ qu₉, f_BargeBasin_trim_search01_L50 (nI least) v3 v4 cw chh cwl n (nI b + (-1)) cn ct ck cp cl cg ca cwd chg cs b1 d1 c1 w1 t1 k1 p1 l1 g1 a1 wd1 hg1 s1 fo qd sp w0 h0 n0 wl0 t0 k0 p0 l0 g0 a0 wd0 hg0 s0 lo hi sl sf mv di qu = some (cn₉, ct₉, ck₉, cp₉, cl₉, cg₉, ca₉, cwd₉, chg₉, cs₉, b1₉, d1₉, c1₉, w1₉, t1₉, k1₉, p1₉, l1₉, g1₉, a1₉, wd1₉, hg1₉, s1₉, fo₉, qd₉, sp₉, w0₉, h0₉, n0₉, wl0₉, t0₉, k0₉, p0₉, l0₉, g0₉, a0₉, wd0₉, hg0₉, s0₉, lo₉, hi₉, sl₉, sf₉, mv₉, di₉, qu₉) ∧ chX (bT least b X).1 (bT least b X).2 cw chh cn₉ cwl ct₉ ck₉ cp₉ cl₉ cg₉ ca₉ cwd₉ chg₉ cs₉ ∧ schI fo₉ sl₉ sf₉ := by
  intro b
  induction b with
  | zero =>
    intro n X cn ct ck cp cl cg ca cwd chg cs b1 d1 c1 w1 t1 k1 p1 l1 g1 a1 wd1 hg1 s1 fo qd sp w0 h0 n0 wl0 t0 k0 p0 l0 g0 a0 wd0 hg0 s0 lo hi sl sf mv di qu hb hn h hc hs
    obtain ⟨n, rfl⟩ : ∃ z, n = z + 1 := ⟨n - 1, by omega⟩
    refine ⟨cn, ct, ck, cp, cl, cg, ca, cwd, chg, cs, b1, d1, c1, w1, t1, k1, p1, l1, g1, a1, wd1, hg1, s1, fo, qd, sp, w0, h0, n0, wl0, t0, k0, p0, l0, g0, a0, wd0, hg0, s0, lo, hi, sl, sf, mv, di, qu, ?_, hc, hs⟩
    rw [f_BargeBasin_trim_search01_L50, if_pos (show nI 0 + (-1) < 0 by decide)]
  | succ b ih =>
    intro n X cn ct ck cp cl cg ca cwd chg cs b1 d1 c1 w1 t1 k1 p1 l1 g1 a1 wd1 hg1 s1 fo qd sp w0 h0 n0 wl0 t0 k0 p0 l0 g0 a0 wd0 hg0 s0 lo hi sl sf mv di qu hb hn h hc hs
    obtain ⟨n, rfl⟩ : ∃ z, n = z + 1 := ⟨n - 1, by omega⟩
    have hb₉ : b < bn X.1 := by omega
    have n12 := h.1.2.2.2.2.1
    obtain ⟨z1, z2, -⟩ := basOk_wh h.1 hb₉
    obtain ⟨k2, p2, l2, g2, a2₉, wd2, hg2, s2, e1, y1⟩ := cp_chX h.1 hc b1 d1 c1 w1 t1 k1 p1 l1 g1 a1 wd1 hg1 s1
    obtain ⟨cn3, ct3, ck3, cp3, cl3, cg3, ca3, cwd3, chg3, cs3, e2, y2⟩ := s_drop h.1 h.2.1 y1 hb₉
    have c5 : (nI (bK X.1 b) = 5) = (bK X.1 b = 5) := nI_eqL (j := 5) (by omega) (by decide)
    rw [nI_m1, f_BargeBasin_trim_search01_L50, if_neg (nI_nn (by omega)), ev_b _ e1, un13_ap, ev_b _ e2, un10_ap, ev_grdN _ z1 (by decide), cl_nI z1, (hc.2.2.2.2.2.1 b hb₉).1]
    simp only [c5, ev_bnd]
    unfold bT
    by_cases k5 : bK X.1 b = 5
    · rw [if_pos k5, if_neg (fun z => z.1 k5)]
      exact ih n X _ _ _ _ _ _ _ _ _ _ _ _ _ _ _ _ _ _ _ _ _ _ _ _ _ _ _ _ _ _ _ _ _ _ _ _ _ _ _ _ _ _ _ _ _ _ (by omega) (by omega) h hc hs
    · have od := ok_drop h hb₉
      obtain ⟨tt, fo₉, qd₉, sp₉, w0₉, h0₉, n0₉, wl0₉, t0₉, k0₉, p0₉, l0₉, g0₉, a0₉, wd0₉, hg0₉, s0₉, lo₉, hi₉, sl₉, sf₉, mv₉, di₉, qu₉, e3, sc, t2⟩ := s_stays od.1 od.2.1 y2 hle hs qd sp w0 h0 n0 wl0 t0 k0 p0 l0 g0 a0 wd0 hg0 s0 lo hi mv di qu
      rw [if_neg k5, ev_b _ e3, un24_ap]
      cases tt with
      | false =>
        have nh : ¬ (bK X.1 b ≠ 5 ∧ hrdB (dropB X.1 b) (dropP X.2 b) least = true) := fun z => by have := t2.mpr (hrdB_t.mp z.2); cases this
        rw [if_pos (show bI false = 0 by decide), if_neg nh]
        exact ih n X _ _ _ _ _ _ _ _ _ _ _ _ _ _ _ _ _ _ _ _ _ _ _ _ _ _ _ _ _ _ _ _ _ _ _ _ _ _ _ _ _ _ _ _ _ _ (by omega) (by omega) h hc sc
      | true =>
        have yh : bK X.1 b ≠ 5 ∧ hrdB (dropB X.1 b) (dropP X.2 b) least = true := ⟨k5, hrdB_t.mpr (t2.mp rfl)⟩
        obtain ⟨cn4, ct4, ck4, cp4, cl4, cg4, ca4, cwd4, chg4, cs4, e4, y4⟩ := s_drop h.1 h.2.1 hc hb₉
        have n1 : bn (dropB X.1 b) = bn X.1 - 1 := rfl
        rw [if_neg (show ¬ bI true = 0 by decide), ev_b _ e4, un10_ap, if_pos yh]
        exact ih n (dropB X.1 b, dropP X.2 b) _ _ _ _ _ _ _ _ _ _ _ _ _ _ _ _ _ _ _ _ _ _ _ _ _ _ _ _ _ _ _ _ _ _ _ _ _ _ _ _ _ _ _ _ _ _ (by show b ≤ bn (dropB X.1 b); omega) (by omega) od y4 sc
theorem s_trW01 {least : Nat} {X : BP} {v3 v4 cw chh cn : Int32} {ct : Int64} {ck cp cl cg ca cwd chg : Nat → Int32} {cs : Nat → Int64} (hle : least < 6000) (hX : okX X) : ∀ (r k n : Nat) (cwl : Int64) (b1 d1 c1 : Int32) (w1 t1 : Int64) (k1 p1 l1 g1 a1 wd1 hg1 : Nat → Int32) (s1 : Nat → Int64) (fo qd sp w0 h0 n0 : Int32) (wl0 t0 : Int64) (k0 p0 l0 g0 a0 wd0 hg0 : Nat → Int32) (s0 lo hi : Nat → Int64) (sl sf mv di qu : Nat → Int32), k + r = 64 → r < n → chX (wT least k X).1 (wT least k X).2 cw chh cn cwl ct ck cp cl cg ca cwd chg cs → schI fo sl sf →
    ∃ cwl₉ b1₉ d1₉ c1₉ w1₉ t1₉ k1₉ p1₉ l1₉ g1₉ a1₉ wd1₉ hg1₉ s1₉ fo₉ qd₉ sp₉ w0₉ h0₉ n0₉ wl0₉ t0₉ k0₉ p0₉ l0₉ g0₉ a0₉ wd0₉ hg0₉ s0₉ lo₉ hi₉ sl₉ sf₉ mv₉ di₉ qu₉, f_BargeBasin_trim_search01_L115 (nI least) v3 v4 cw chh cn ct ck cp cl cg ca cwd chg cs n (nI k) cwl b1 d1 c1 w1 t1 k1 p1 l1 g1 a1 wd1 hg1 s1 fo qd sp w0 h0 n0 wl0 t0 k0 p0 l0 g0 a0 wd0 hg0 s0 lo hi sl sf mv di qu = some (cwl₉, b1₉, d1₉, c1₉, w1₉, t1₉, k1₉, p1₉, l1₉, g1₉, a1₉, wd1₉, hg1₉, s1₉, fo₉, qd₉, sp₉, w0₉, h0₉, n0₉, wl0₉, t0₉, k0₉, p0₉, l0₉, g0₉, a0₉, wd0₉, hg0₉, s0₉, lo₉, hi₉, sl₉, sf₉, mv₉, di₉, qu₉) ∧ chX (wT least 64 X).1 (wT least 64 X).2 cw chh cn cwl₉ ct ck cp cl cg ca cwd chg cs ∧ schI fo₉ sl₉ sf₉ := by
  intro r
  induction r with
  | zero =>
    intro k n cwl b1 d1 c1 w1 t1 k1 p1 l1 g1 a1 wd1 hg1 s1 fo qd sp w0 h0 n0 wl0 t0 k0 p0 l0 g0 a0 wd0 hg0 s0 lo hi sl sf mv di qu h1 h2 hc hs
    obtain ⟨n, rfl⟩ : ∃ z, n = z + 1 := ⟨n - 1, by omega⟩
    have e : k = 64 := by omega
    subst e
    refine ⟨cwl, b1, d1, c1, w1, t1, k1, p1, l1, g1, a1, wd1, hg1, s1, fo, qd, sp, w0, h0, n0, wl0, t0, k0, p0, l0, g0, a0, wd0, hg0, s0, lo, hi, sl, sf, mv, di, qu, ?_, hc, hs⟩
    rw [f_BargeBasin_trim_search01_L115, if_pos (show (64 : Int32) ≤ nI 64 by decide)]
  | succ r ih =>
    intro k n cwl b1 d1 c1 w1 t1 k1 p1 l1 g1 a1 wd1 hg1 s1 fo qd sp w0 h0 n0 wl0 t0 k0 p0 l0 g0 a0 wd0 hg0 s0 lo hi sl sf mv di qu h1 h2 hc hs
    obtain ⟨n, rfl⟩ : ∃ z, n = z + 1 := ⟨n - 1, by omega⟩
    obtain ⟨q1, -⟩ := wT_ok (least := least) hX k (by omega)
    obtain ⟨k2, p2, l2, g2, a2₉, wd2, hg2, s2, e1, y1⟩ := cp_chX q1.1 hc b1 d1 c1 w1 t1 k1 p1 l1 g1 a1 wd1 hg1 s1
    rw [f_BargeBasin_trim_search01_L115, if_neg (show ¬ (64 : Int32) ≤ nI k from nI_ge (b := 64) (by omega) (by decide)), ev_b _ e1, un13_ap]
    simp only [ev_bnd, nI_1, cmpE]
    have wq : ∀ f, f < 64 → tb (cwl &&& (jlshl 1 (nI k) ^^^ (-1))) f = (if f = k then false else bwl (wT least k X).1 f) := by
      intro f hf
      rw [tb_and, tb_not hf, tb_one (by omega), hc.2.2.2.1 f hf]
      by_cases z : f = k
      · rw [if_pos z, decide_eq_true z]; simp
      · rw [if_neg z, decide_eq_false z]; simp
    cases ew : bwl (wT least k X).1 k with
    | false =>
      have eq : (cwl &&& (jlshl 1 (nI k) ^^^ (-1))) = cwl := tb_ext fun f hf => by
        rw [wq f hf, hc.2.2.2.1 f hf]
        by_cases z : f = k
        · rw [if_pos z, z, ew]
        · rw [if_neg z]
      rw [if_pos eq]
      have hw := wT_n (least := least) (k := k) (X := X) (fun z => by rw [ew] at z; cases z.1)
      exact ih (k + 1) n cwl _ _ _ _ _ _ _ _ _ _ _ _ _ _ _ _ _ _ _ _ _ _ _ _ _ _ _ _ _ _ _ _ _ _ _ _ (by omega) (by omega) (by rw [hw]; exact hc) hs
    | true =>
      have ne : ¬ (cwl &&& (jlshl 1 (nI k) ^^^ (-1))) = cwl := fun z => by
        have := wq k (by omega)
        rw [z, hc.2.2.2.1 k (by omega), ew, if_pos rfl] at this
        cases this
      have od := ok_del (f := k) q1
      obtain ⟨tt, fo₉, qd₉, sp₉, w0₉, h0₉, n0₉, wl0₉, t0₉, k0₉, p0₉, l0₉, g0₉, a0₉, wd0₉, hg0₉, s0₉, lo₉, hi₉, sl₉, sf₉, mv₉, di₉, qu₉, e3, sc, t2⟩ := s_stays od.1 od.2.1 (chX_wl (C := X.1) y1 k wq) hle hs qd sp w0 h0 n0 wl0 t0 k0 p0 l0 g0 a0 wd0 hg0 s0 lo hi mv di qu
      rw [if_neg ne, ev_b _ e3, un24_ap]
      cases tt with
      | false =>
        have hw := wT_n (least := least) (k := k) (X := X) (fun z => by have := t2.mpr (hrdB_t.mp z.2); cases this)
        rw [if_pos (show bI false = 0 by decide)]
        exact ih (k + 1) n cwl _ _ _ _ _ _ _ _ _ _ _ _ _ _ _ _ _ _ _ _ _ _ _ _ _ _ _ _ _ _ _ _ _ _ _ _ (by omega) (by omega) (by rw [hw]; exact hc) sc
      | true =>
        have hw := wT_y (least := least) (k := k) (X := X) ⟨ew, hrdB_t.mpr (t2.mp rfl)⟩
        rw [if_neg (show ¬ bI true = 0 by decide)]
        exact ih (k + 1) n _ _ _ _ _ _ _ _ _ _ _ _ _ _ _ _ _ _ _ _ _ _ _ _ _ _ _ _ _ _ _ _ _ _ _ _ _ (by omega) (by omega) (by rw [hw]; exact chX_wl (C := X.1) hc k wq) sc
theorem s_trim_01 {X : BP} {cw chh cn : Int32} {cwl ct : Int64} {ck cp cl cg ca cwd chg : Nat → Int32} {cs : Nat → Int64} (hX : okX X) (hc : chX X.1 X.2 cw chh cn cwl ct ck cp cl cg ca cwd chg cs) (st ld lu : Int32) (csort csize cnum : Nat → Int32) (b1 d1 c1 : Int32) (w1 t1 : Int64) (k1 p1 l1 g1 a1 wd1 hg1 : Nat → Int32) (s1 : Nat → Int64) :
    (∃ (st1 : Int32) (fo₉ qd₉ sp₉ w0₉ h0₉ n0₉ : Int32) (wl0₉ t0₉ : Int64) (k0₉ p0₉ l0₉ g0₉ a0₉ wd0₉ hg0₉ : Nat → Int32) (s0₉ lo₉ hi₉ : Nat → Int64) (sl₉ sf₉ mv₉ di₉ qu₉ : Nat → Int32), farX X.1 X.2 (-1) st1 ∧ st1 ≠ 0 ∧ f_BargeBasin_trim_search01 st csort csize cnum cw chh cn cwl ct ck cp cl cg ca cwd chg cs b1 d1 c1 w1 t1 k1 p1 l1 g1 a1 wd1 hg1 s1 ld lu = some (-1, st1, csort, csize, cnum, cn, cwl, ct, ck, cp, cl, cg, ca, cwd, chg, cs, b1, d1, c1, w1, t1, k1, p1, l1, g1, a1, wd1, hg1, s1, ld, lu, fo₉, qd₉, sp₉, w0₉, h0₉, n0₉, wl0₉, t0₉, k0₉, p0₉, l0₉, g0₉, a0₉, wd0₉, hg0₉, s0₉, lo₉, hi₉, sl₉, sf₉, mv₉, di₉, qu₉) ∧ schI fo₉ sl₉ sf₉) ∨
    (∃ (least v2 v3 : Nat) (Z : BP) (b : Nat) (csort₉ csize₉ cnum₉ : Nat → Int32) (cn₉ : Int32) (cwl₉ ct₉ : Int64) (ck₉ cp₉ cl₉ cg₉ ca₉ cwd₉ chg₉ : Nat → Int32) (cs₉ : Nat → Int64) (b1₉ d1₉ c1₉ : Int32) (w1₉ t1₉ : Int64) (k1₉ p1₉ l1₉ g1₉ a1₉ wd1₉ hg1₉ : Nat → Int32) (s1₉ : Nat → Int64) (fo₉ qd₉ sp₉ w0₉ h0₉ n0₉ : Int32) (wl0₉ t0₉ : Int64) (k0₉ p0₉ l0₉ g0₉ a0₉ wd0₉ hg0₉ : Nat → Int32) (s0₉ lo₉ hi₉ : Nat → Int64) (sl₉ sf₉ mv₉ di₉ qu₉ : Nat → Int32), (FL X.1 7 X.2).length ≤ 6000 ∧ bstX X.1 X.2 b least ∧ least < 6000 ∧ trX X least Z v2 v3 ∧ f_BargeBasin_trim_search01 st csort csize cnum cw chh cn cwl ct ck cp cl cg ca cwd chg cs b1 d1 c1 w1 t1 k1 p1 l1 g1 a1 wd1 hg1 s1 ld lu = some (nI (v2 + v3), 0, csort₉, csize₉, cnum₉, cn₉, cwl₉, ct₉, ck₉, cp₉, cl₉, cg₉, ca₉, cwd₉, chg₉, cs₉, b1₉, d1₉, c1₉, w1₉, t1₉, k1₉, p1₉, l1₉, g1₉, a1₉, wd1₉, hg1₉, s1₉, 0, 0, fo₉, qd₉, sp₉, w0₉, h0₉, n0₉, wl0₉, t0₉, k0₉, p0₉, l0₉, g0₉, a0₉, wd0₉, hg0₉, s0₉, lo₉, hi₉, sl₉, sf₉, mv₉, di₉, qu₉) ∧ chX Z.1 Z.2 cw chh cn₉ cwl₉ ct₉ ck₉ cp₉ cl₉ cg₉ ca₉ cwd₉ chg₉ cs₉ ∧ schI fo₉ sl₉ sf₉ ∧ ((v3 = 0 ∧ csort₉ = csort ∧ csize₉ = csize ∧ cnum₉ = cnum) ∨ (0 < v3 ∧ (∀ z, z < bh Z.1 → csort₉ z = 0 ∧ csize₉ z = nI (bw Z.1) ∧ ∀ i, i < bw Z.1 → cnum₉ (8 * z + i) = bI (bwl Z.1 (i + 8 * z))) ∧ (∀ z, bh Z.1 ≤ z → z < 8 → csort₉ z = -1)))) := by
  have n12 := hX.1.2.2.2.2.1
  obtain ⟨r, fo2, qd2, sp2, w02, h02, n02, wl02, t02, k02, p02, l02, g02, a02, wd02, hg02, s02, lo2, hi2, sl2, sf2, mv2, di2, qu2, e, sc, q⟩ := s_fault11 (sg := false) (all := true) hX.1 hX.2.1 hc (most := 7) rfl schI_0 0 0 0 0 0 0 0 (fun _ => 0) (fun _ => 0) (fun _ => 0) (fun _ => 0) (fun _ => 0) (fun _ => 0) (fun _ => 0) (fun _ => 0) (fun _ => 0) (fun _ => 0) (fun _ => 0) (fun _ => 0) (fun _ => 0)
  rw [show bI false = (0 : Int32) from rfl, show bI true = (1 : Int32) from rfl] at e
  unfold f_BargeBasin_trim_search01
  rw [s_fault01 (by rw [hc.1]; exact noBas hX.1), ev_b _ e, un24_ap]
  rcases q with ⟨q1, q2⟩ | ⟨D, sx, q2⟩
  · subst q2
    rw [if_neg (show ¬ (10 : Int32) = 0 by decide)]
    exact Or.inl ⟨10, fo2, qd2, sp2, w02, h02, n02, wl02, t02, k02, p02, l02, g02, a02, wd02, hg02, s02, lo2, hi2, sl2, sf2, mv2, di2, qu2, Or.inl ⟨q1, rfl, rfl⟩, by decide, rfl, sc⟩
  · have sx₉ := sx
    obtain ⟨x1, x2, x3, x4, x5, x6, x7, x8, x9, x10, x11, x12⟩ := sx₉
    cases eb : bestO D (FL X.1 7 X.2).length with
    | none =>
      have : r = 11 := by rw [q2]; simp [eb]
      subst this
      rw [if_neg (show ¬ (11 : Int32) = 0 by decide)]
      exact Or.inl ⟨11, fo2, qd2, sp2, w02, h02, n02, wl02, t02, k02, p02, l02, g02, a02, wd02, hg02, s02, lo2, hi2, sl2, sf2, mv2, di2, qu2, Or.inr (Or.inl ⟨x1, (bst_none x2).mp eb, rfl, rfl⟩), by decide, rfl, sc⟩
    | some b =>
      have : r = 0 := by rw [q2]; simp [eb]
      subst this
      have l := bestO_lt eb
      have ft := s_farthest x1 x3 (fun u k hu e => by have := x4 u k hu e; omega)
      rw [eb, show (some b).bind D = D b from rfl, some_dv l.2] at ft
      rw [← x5] at ft
      have bx : bstX X.1 X.2 b (dvO D b) := ⟨D, x2, eb, some_dv l.2⟩
      have kl := bst_lt hX.1 hX.2.1 x1 bx
      generalize dvO D b = least at *
      have ft₉ : f_Search_farthest fo2 di2 = some (nI least) := ft
      have bc := s_bitCount hc.2.2.2.1
      have kn1 : cn - 1 = nI (bn X.1) + (-1) := by rw [hc.2.2.1, Int32.sub_eq_add_neg]
      obtain ⟨cn3, ct3, ck3, cp3, cl3, cg3, ca3, cwd3, chg3, cs3, b13, d13, c13, w13, t13, k13, p13, l13, g13, a13, wd13, hg13, s13, fo3, qd3, sp3, w03, h03, n03, wl03, t03, k03, p03, l03, g03, a03, wd03, hg03, s03, lo3, hi3, sl3, sf3, mv3, di3, qu3, e3, y3, sc3⟩ := s_trB01 (least := least) (v3 := cn) (v4 := nI (nmF (bwl X.1) 64)) kl (bn X.1) jN X cn ct ck cp cl cg ca cwd chg cs b1 d1 c1 w1 t1 k1 p1 l1 g1 a1 wd1 hg1 s1 fo2 qd2 sp2 w02 h02 n02 wl02 t02 k02 p02 l02 g02 a02 wd02 hg02 s02 lo2 hi2 sl2 sf2 mv2 di2 qu2 (Nat.le_refl _) (by show bn X.1 < 2000000; omega) hX hc sc
      obtain ⟨o1, o2, o3⟩ := ok_bT (least := least) (bn X.1) X (Nat.le_refl _) hX
      obtain ⟨cwl4, b14, d14, c14, w14, t14, k14, p14, l14, g14, a14, wd14, hg14, s14, fo4, qd4, sp4, w04, h04, n04, wl04, t04, k04, p04, l04, g04, a04, wd04, hg04, s04, lo4, hi4, sl4, sf4, mv4, di4, qu4, e4, y4, sc4⟩ := s_trW01 (least := least) (X := bT least (bn X.1) X) (v3 := cn) (v4 := nI (nmF (bwl X.1) 64)) kl o1 64 0 jN cwl b13 d13 c13 w13 t13 k13 p13 l13 g13 a13 wd13 hg13 s13 fo3 qd3 sp3 w03 h03 n03 wl03 t03 k03 p03 l03 g03 a03 wd03 hg03 s03 lo3 hi3 sl3 sf3 mv3 di3 qu3 (by omega) (by show 64 < 2000000; omega) y3 sc3
      obtain ⟨w1₉, w2, w3, w4, w5, w6⟩ := wT_ok (least := least) o1 64 (Nat.le_refl _)
      have bc4 := s_bitCount y4.2.2.2.1
      have nm : nmF (bwl (wT least 64 (bT least (bn X.1) X)).1) 64 ≤ nmF (bwl X.1) 64 := by rw [← o2.2.2]; exact w5
      have le64 := nmF_le (bwl X.1) 64
      rw [if_pos rfl, ev_b _ (show f_BargeBasin_searcher_search11 = some () from rfl), un0_ap, ev_b _ ft₉, ev_b _ bc, ev_bnd, kn1, ev_b _ e3]
      rw [un46_ap, ev_b (x := f_BargeBasin_trim_search01_L115 (nI least) cn (nI (nmF (bwl X.1) 64)) cw chh cn3 ct3 ck3 cp3 cl3 cg3 ca3 cwd3 chg3 cs3 jN 0 cwl b13 d13 c13 w13 t13 k13 p13 l13 g13 a13 wd13 hg13 s13 fo3 qd3 sp3 w03 h03 n03 wl03 t03 k03 p03 l03 g03 a03 wd03 hg03 s03 lo3 hi3 sl3 sf3 mv3 di3 qu3) _ e4, un37_ap, ev_b _ bc4, ev_bnd, nI_subE nm]
      generalize hZ : wT least 64 (bT least (bn X.1) X) = Z at *
      generalize hv : nmF (bwl X.1) 64 - nmF (bwl Z.1) 64 = v3 at *
      have tr : trX X least Z (bn X.1 - bn Z.1) v3 := ⟨hZ.symm, by rw [w4]; omega, by omega⟩
      have v0 : (nI v3 ≤ 0) = (v3 ≤ 0) := nI_leE (b := 0) (by omega) (by decide)
      have an : cn - cn3 + nI v3 = nI (bn X.1 - bn Z.1 + v3) := by rw [hc.2.2.1, y4.2.2.1, nI_subE (by rw [w4]; exact o3), nI_add]
      simp only [v0]
      by_cases z : v3 ≤ 0
      · rw [if_pos z]
        refine Or.inr ⟨least, bn X.1 - bn Z.1, v3, Z, b, csort, csize, cnum, cn3, cwl4, ct3, ck3, cp3, cl3, cg3, ca3, cwd3, chg3, cs3, b14, d14, c14, w14, t14, k14, p14, l14, g14, a14, wd14, hg14, s14, fo4, qd4, sp4, w04, h04, n04, wl04, t04, k04, p04, l04, g04, a04, wd04, hg04, s04, lo4, hi4, sl4, sf4, mv4, di4, qu4, x1, bx, kl, tr, ?_, y4, sc4, Or.inl ⟨by omega, rfl, rfl, rfl⟩⟩
        unfold f_BargeBasin_trim_search01_J230
        rw [an]
        rfl
      · obtain ⟨S, Zl, N, l1₉, l2₉, l3₉⟩ := s_showWalls w1₉.1 y4.2.2.2.1 csort csize cnum
        have l1₉₉ : f_Lines_showWalls csort csize cnum cw chh cwl4 = some (S, Zl, N) := by rw [y4.1, y4.2.1]; exact l1₉
        rw [if_neg z, ev_b _ l1₉₉, un3_ap]
        refine Or.inr ⟨least, bn X.1 - bn Z.1, v3, Z, b, S, Zl, N, cn3, cwl4, ct3, ck3, cp3, cl3, cg3, ca3, cwd3, chg3, cs3, b14, d14, c14, w14, t14, k14, p14, l14, g14, a14, wd14, hg14, s14, fo4, qd4, sp4, w04, h04, n04, wl04, t04, k04, p04, l04, g04, a04, wd04, hg04, s04, lo4, hi4, sl4, sf4, mv4, di4, qu4, x1, bx, kl, tr, ?_, y4, sc4, Or.inr ⟨by omega, l2₉, l3₉⟩⟩
        unfold f_BargeBasin_trim_search01_J230
        rw [an]
        rfl
end
section
/-! same where there is no such shelf, or nothing on it; out and status of the reference. -/
theorem s_sameN {B : Bas} {v1 : Int32} {shelves : Nat → Option Nat} (h : basOk B) (hv : ¬ (0 ≤ v1.toInt ∧ v1.toInt < 4)) (st : Int32) : f_BargeBasin_same_shx v1 st (nI (bw B)) shelves = some (-1, 2) := by
  have t0 : (0 : Int32).toInt = 0 := rfl
  have t4 : (4 : Int32).toInt = 4 := by decide
  unfold f_BargeBasin_same_shx
  rw [ev_b _ (noBas h), if_pos rfl]
  by_cases a : v1 < 0
  · rw [if_pos a]; rfl
  · rw [if_neg a, if_neg (show ¬ v1 < 4 from fun z => by
      rw [Int32.lt_iff_toInt_lt, t0] at a
      rw [Int32.lt_iff_toInt_lt, t4] at z
      omega)]; rfl
theorem s_same0 {B : Bas} {k : Nat} {shelves : Nat → Option Nat} (h : basOk B) (hk : k < 4) (hs : shelves k = none) (st : Int32) : f_BargeBasin_same_sh0 (nI k) st (nI (bw B)) shelves = some (-1, 11) := by
  have e3 : (nI k < 4) = (k < 4) := nI_ltE (b := 4) (by omega) (by decide)
  unfold f_BargeBasin_same_sh0 jshN
  rw [ev_b _ (noBas h), if_pos rfl, if_neg (nI_nn (by omega)), if_pos (show nI k < 4 by rw [e3]; exact hk), ev_grdN _ hk (by decide), nI_clamp (show k < 2 ^ 31 by omega), if_pos hs]
  rfl
theorem m_sameN {v1 : Int32} (hv : ¬ (0 ≤ v1.toInt ∧ v1.toInt < 4)) (st th kw kh kn aw ah : Int32) (kwl kk kat ks ky kg iK kW kH kN kWl kK kA kS kY kG nw aat ag ay awd ata awl : Nat → Int32) : f_BargeBasinModel_same v1 st th 1 kw kh kn aw ah kwl kk kat ks ky kg iK kW kH kN kWl kK kA kS kY kG nw aat ag ay awd ata awl = some (-1, 2, 0, aw, ah, nw, aat, ag, ay, awd, ata, awl) := by
  have t0 : (0 : Int32).toInt = 0 := rfl
  have t3 : (3 : Int32).toInt = 3 := by decide
  unfold f_BargeBasinModel_same
  rw [if_neg (show ¬ (1 : Int32) = 0 by decide)]
  by_cases a : v1 < 0
  · rw [if_pos a]; rfl
  · rw [if_neg a, if_neg (show ¬ v1 ≤ 3 from fun z => by
      rw [Int32.lt_iff_toInt_lt, t0] at a
      rw [Int32.le_iff_toInt_le, t3] at z
      omega)]; rfl
theorem m_same0 {k : Nat} {iK : Nat → Int32} (hk : k < 4) (hi : iK k = 0) (st th kw kh kn aw ah : Int32) (kwl kk kat ks ky kg kW kH kN kWl kK kA kS kY kG nw aat ag ay awd ata awl : Nat → Int32) : f_BargeBasinModel_same (nI k) st th 1 kw kh kn aw ah kwl kk kat ks ky kg iK kW kH kN kWl kK kA kS kY kG nw aat ag ay awd ata awl = some (-1, 11, 0, aw, ah, nw, aat, ag, ay, awd, ata, awl) := by
  have e3 : (nI k ≤ 3) = (k ≤ 3) := nI_leE (b := 3) (by omega) (by decide)
  unfold f_BargeBasinModel_same
  rw [if_neg (show ¬ (1 : Int32) = 0 by decide), if_neg (nI_nn (by omega)), if_pos (show nI k ≤ 3 by rw [e3]; omega), ev_grdN _ hk (by decide), nI_clamp (show k < 2 ^ 31 by omega), hi, if_pos rfl]
  rfl
/-- the number of a shelf -/
theorem shf (v1 : Int32) : (∃ k, k < 4 ∧ v1 = nI k) ∨ ¬ (0 ≤ v1.toInt ∧ v1.toInt < 4) := by
  by_cases c : 0 ≤ v1.toInt ∧ v1.toInt < 4
  · refine Or.inl ⟨v1.toInt.toNat, by omega, ?_⟩
    apply Int32.toInt_inj.mp
    rw [nI_toInt (by omega)]
    omega
  · exact Or.inr c
/-- out of the reference: it throws where show() left no such sign -/
theorem m_out {cnt outs : Int32} {sh out : Nat → Int32} (hs : shR cnt sh outs out) (v1 th : Int32) : ((v1 < 0 ∨ cnt ≤ v1) ∧ f_BargeBasinModel_out v1 th outs out = some (0, 1)) ∨ (∃ k, v1 = nI k ∧ k < 8 ∧ ¬ v1 < 0 ∧ ¬ cnt ≤ v1 ∧ f_BargeBasinModel_out v1 th outs out = some (sh k, 0)) := by
  obtain ⟨w, w8, e1, e2, q⟩ := hs
  subst e1; subst e2
  unfold f_BargeBasinModel_out
  by_cases a : v1 < 0
  · rw [if_pos a]; exact Or.inl ⟨Or.inl a, rfl⟩
  · rw [if_neg a]
    by_cases b : nI w ≤ v1
    · rw [if_neg (fun z => by rw [Int32.lt_iff_toInt_lt] at z; rw [Int32.le_iff_toInt_le] at b; omega)]
      exact Or.inl ⟨Or.inr b, rfl⟩
    · have lt : v1 < nI w := Int32.not_le.mp b
      obtain ⟨k, hk, e⟩ : ∃ k, k < w ∧ v1 = nI k := by
        have t0 : (0 : Int32).toInt = 0 := rfl
        rw [Int32.lt_iff_toInt_lt, t0] at a
        rw [Int32.lt_iff_toInt_lt, nI_toInt (by omega)] at lt
        refine ⟨v1.toInt.toNat, by omega, ?_⟩
        apply Int32.toInt_inj.mp
        rw [nI_toInt (by omega)]
        omega
      rw [if_pos lt]
      subst e
      refine Or.inr ⟨k, rfl, by omega, a, b, ?_⟩
      rw [ev_grdN _ (show k < 8 by omega) (by decide), nI_clamp (show k < 2 ^ 31 by omega), q k hk]
end
section
/-! Each word has one answer: so both sides' answers are the same. -/
theorem far_u {B : Bas} {P : Nat → Nat} {a s a₉ s₉ : Int32} (h1 : farX B P a s) (h2 : farX B P a₉ s₉) : a = a₉ ∧ s = s₉ := by
  rcases h1 with ⟨p1, p2, p3⟩ | ⟨p1, p2, p3, p4⟩ | ⟨p1, b, k, p2, p3, p4⟩ <;> rcases h2 with ⟨q1, q2, q3⟩ | ⟨q1, q2, q3, q4⟩ | ⟨q1, c, j, q2, q3, q4⟩
  · exact ⟨p2.trans q2.symm, p3.trans q3.symm⟩
  · omega
  · omega
  · omega
  · exact ⟨p3.trans q3.symm, p4.trans q4.symm⟩
  · obtain ⟨E, f1, f2, f3⟩ := q2
    rw [(bst_none f1).mpr p2] at f2; cases f2
  · omega
  · obtain ⟨E, f1, f2, f3⟩ := p2
    rw [(bst_none f1).mpr q2] at f2; cases f2
  · rw [p3, q3, p4, q4, (bst_u p2 q2).2]; exact ⟨rfl, rfl⟩
theorem far_no {B : Bas} {P : Nat → Nat} {s : Int32} {b k : Nat} (h1 : farX B P (-1) s) (hs : s ≠ 0) (hl : (FL B 7 P).length ≤ 6000) (hb : bstX B P b k) : False := by
  have := far_u h1 (Or.inr (Or.inr ⟨hl, b, k, hb, rfl, rfl⟩) : farX B P (nI k) 0)
  exact hs this.2
theorem reach_u {B : Bas} {P : Nat → Nat} {a s a₉ s₉ : Int32} (h1 : reachX B P a s) (h2 : reachX B P a₉ s₉) : a = a₉ ∧ s = s₉ := by
  rcases h1 with ⟨p1, p2, p3⟩ | ⟨p1, p2, p3⟩ <;> rcases h2 with ⟨q1, q2, q3⟩ | ⟨q1, q2, q3⟩
  · exact ⟨p2.trans q2.symm, p3.trans q3.symm⟩
  · omega
  · omega
  · exact ⟨p2.trans q2.symm, p3.trans q3.symm⟩
theorem wyX_u {B : Bas} {P : Nat → Nat} {but : Option Nat} {n m : Int64} (h1 : wyX B but P n) (h2 : wyX B but P m) : n = m := by
  rcases h1 with ⟨p1, p2⟩ | ⟨p1, p2, p3⟩ | ⟨p1, k, p2, p3⟩ <;> rcases h2 with ⟨q1, q2⟩ | ⟨q1, q2, q3⟩ | ⟨q1, j, q2, q3⟩
  · exact p2.trans q2.symm
  · omega
  · omega
  · omega
  · exact p3.trans q3.symm
  · exact absurd q2.1 (p2 j)
  · omega
  · exact absurd p2.1 (q2 k)
  · rw [p3, q3, isD_u p2 q2]
theorem all_u {B : Bas} {P : Nat → Nat} {a a₉ : Int64} {s s₉ : Int32} (h1 : allX B P a s) (h2 : allX B P a₉ s₉) : a = a₉ ∧ s = s₉ := by
  obtain ⟨n, w1, p⟩ := h1
  obtain ⟨m, w2, q⟩ := h2
  have e := wyX_u w1 w2
  subst e
  rcases p with ⟨p1, p2, p3⟩ | ⟨p1, p2, p3, p4⟩ | ⟨p1, p2, p3, p4⟩ <;> rcases q with ⟨q1, q2, q3⟩ | ⟨q1, q2, q3, q4⟩ | ⟨q1, q2, q3, q4⟩
  · exact ⟨p2.trans q2.symm, p3.trans q3.symm⟩
  · exact absurd p1 q1
  · exact absurd p1 q1
  · exact absurd q1 p1
  · exact ⟨p3.trans q3.symm, p4.trans q4.symm⟩
  · exact absurd p2 q2
  · exact absurd q1 p1
  · exact absurd q2 p2
  · exact ⟨p3.trans q3.symm, p4.trans q4.symm⟩
theorem must_u {B : Bas} {P : Nat → Nat} {b : Nat} {a a₉ s s₉ : Int32} (h1 : mustX B b P a s) (h2 : mustX B b P a₉ s₉) : a = a₉ ∧ s = s₉ := by
  obtain ⟨n, w1, p⟩ := h1
  obtain ⟨m, w2, q⟩ := h2
  have e := wyX_u w1 w2
  subst e
  rcases p with ⟨p1, p2, p3⟩ | ⟨p1, p2, p3, p4⟩ | ⟨p1, p2, p3, p4⟩ <;> rcases q with ⟨q1, q2, q3⟩ | ⟨q1, q2, q3, q4⟩ | ⟨q1, q2, q3, q4⟩
  · exact ⟨p2.trans q2.symm, p3.trans q3.symm⟩
  · exact absurd p1 q1
  · exact absurd p1 q1
  · exact absurd q1 p1
  · exact ⟨p3.trans q3.symm, p4.trans q4.symm⟩
  · exact absurd p2 q2
  · exact absurd q1 p1
  · exact absurd q2 p2
  · exact ⟨p3.trans q3.symm, p4.trans q4.symm⟩
theorem pl_u {B : Bas} {P : Nat → Nat} {most : Nat} {a a₉ s s₉ : Int32} {n n₉ : Option (List Nat)} (h1 : plX B most P a s n) (h2 : plX B most P a₉ s₉ n₉) : a = a₉ ∧ s = s₉ ∧ n = n₉ := by
  rcases h1 with ⟨p1, p2, p3, p4⟩ | ⟨p1, p2, p3, p4, p5⟩ | ⟨p1, k, cs, p2, p3, p4, p5, p6, p7⟩ <;> rcases h2 with ⟨q1, q2, q3, q4⟩ | ⟨q1, q2, q3, q4, q5⟩ | ⟨q1, j, ds, q2, q3, q4, q5, q6, q7⟩
  · exact ⟨p2.trans q2.symm, p3.trans q3.symm, p4.trans q4.symm⟩
  · omega
  · omega
  · omega
  · exact ⟨p3.trans q3.symm, p4.trans q4.symm, p5.trans q5.symm⟩
  · exact absurd q2.1 (p2 j)
  · omega
  · exact absurd p2.1 (q2 k)
  · have e := isD_u p2 q2
    subst e
    have f := gPath_u p3 q3
    subst f
    exact ⟨p5.trans q5.symm, p6.trans q6.symm, p7.trans q7.symm⟩
/-- go: the stand that both sides lay out -/
theorem ok_gt {X : BP} {b k : Nat} (h : okX X) (hl : (FL X.1 7 X.2).length ≤ 6000) (hb : bstX X.1 X.2 b k) : okX (X.1, gt (FL X.1 7 X.2) b) := by
  obtain ⟨cwl, ct, hc⟩ := chX_ex X.1 X.2
  obtain ⟨r, f₉, qd₉, sp₉, w₉, h₉, n₉, wl₉, t₉, k₉, p₉, l₉, g₉, a₉, wd₉, hg₉, s₉, lo₉, hi₉, sl₉, fo₉, mv₉, di₉, qu₉, e, sc, q⟩ := s_fault11 (sg := false) (all := true) h.1 h.2.1 hc (most := 7) rfl schI_0 0 0 0 0 0 0 0 (fun _ => 0) (fun _ => 0) (fun _ => 0) (fun _ => 0) (fun _ => 0) (fun _ => 0) (fun _ => 0) (fun _ => 0) (fun _ => 0) (fun _ => 0) (fun _ => 0) (fun _ => 0) (fun _ => 0)
  rcases q with ⟨q1, -⟩ | ⟨D, sx, -⟩
  · omega
  · obtain ⟨E, d1, d2, d3⟩ := hb
    have lt := (bestO_lt d2).1
    have hs : stC X.1 (gt (FL X.1 7 X.2) b) := by
      rw [gt_at lt]
      exact sx.2.2.2.2.2.1.2.1 _ (List.getElem_mem lt)
    generalize gt (FL X.1 7 X.2) b = Q at hs
    exact ⟨h.1, hs, h.2.2⟩
/-- trim: both sides leave the same basin -/
theorem tr_u {X Z Z₉ : BP} {least least₉ v2 v3 v2₉ v3₉ b b₉ : Nat} (hb : bstX X.1 X.2 b least) (hb₉ : bstX X.1 X.2 b₉ least₉) (h : trX X least Z v2 v3) (h₉ : trX X least₉ Z₉ v2₉ v3₉) : Z = Z₉ ∧ v2 = v2₉ ∧ v3 = v3₉ := by
  have e := (bst_u hb hb₉).2
  subst e
  obtain ⟨z1, z2, z3⟩ := h
  obtain ⟨y1, y2, y3⟩ := h₉
  have ez : Z = Z₉ := z1.trans y1.symm
  subst ez
  exact ⟨rfl, by omega, by omega⟩
theorem tr_ok {X Z : BP} {least v2 v3 : Nat} (hX : okX X) (h : trX X least Z v2 v3) : okX Z ∧ bw Z.1 = bw X.1 ∧ bh Z.1 = bh X.1 ∧ (v3 = 0 → bwl Z.1 = bwl X.1) := by
  obtain ⟨z1, z2, z3⟩ := h
  obtain ⟨o1, o2, o3⟩ := ok_bT (least := least) (bn X.1) X (Nat.le_refl _) hX
  obtain ⟨w1, w2, w3, w4, w5, w6⟩ := wT_ok (least := least) o1 64 (Nat.le_refl _)
  generalize wT least 64 (bT least (bn X.1) X) = W at *
  subst z1
  refine ⟨w1, w2.trans o2.1, w3.trans o2.2.1, fun e => ?_⟩
  have := w6 (by rw [o2.2.2]; omega)
  rw [this]
  exact o2.2.2
end
section
/-! trim of both sides. -/
theorem lnR_cg {B C : Bas} {csort csize cnum lsort lmany lnum : Nat → Int32} (h1 : bw C = bw B) (h2 : bh C = bh B) (h3 : bwl C = bwl B) (h : lnR B csort csize cnum lsort lmany lnum) : lnR C csort csize cnum lsort lmany lnum := by
  unfold lnR at *
  rw [h1, h2, h3]
  exact h
theorem eq_trim_11 {X : BP} {cw chh cn : Int32} {cwl ct : Int64} {ck cp cl cg ca cwd chg : Nat → Int32} {cs : Nat → Int64} {khas kw kh kn : Int32} {kwl kk kat ks ky kg : Nat → Int32} {lf ld lu um rm : Int32} {lm ub uf ut rb rf rt : Nat → Int32} {csort csize cnum lsort lmany lnum : Nat → Int32} (hX : okX X) (hc : chX X.1 X.2 cw chh cn cwl ct ck cp cl cg ca cwd chg cs) (hr : rfX X.1 X.2 khas kw kh kn kwl kk kat ks ky kg) (hl : lgR X.1 X.2 lf ld lu lm um rm ub uf ut rb rf rt) (hn : lnR X.1 csort csize cnum lsort lmany lnum) (st st2 th sn ed : Int32) (b1 d1 c1 : Int32) (w1 t1 : Int64) (k1 p1 l1 g1 a1 wd1 hg1 : Nat → Int32) (s1 : Nat → Int64) (fo qd sp w0 h0 n0 : Int32) (wl0 t0 : Int64) (k0 p0 l0 g0 a0 wd0 hg0 : Nat → Int32) (s0 lo hi : Nat → Int64) (sl sf mv di qu : Nat → Int32) (hs : schI fo sl sf) (kpl khd kch kdp kpr kbb kby kbs kf kfe ked keb kwho khe : Nat → Int32) :
    ∃ (Z : BP) (ans st₉ : Int32) (csort₉ csize₉ cnum₉ : Nat → Int32) (cn₉ : Int32) (cwl₉ ct₉ : Int64) (ck₉ cp₉ cl₉ cg₉ ca₉ cwd₉ chg₉ : Nat → Int32) (cs₉ : Nat → Int64) (b1₉ d1₉ c1₉ : Int32) (w1₉ t1₉ : Int64) (k1₉ p1₉ l1₉ g1₉ a1₉ wd1₉ hg1₉ : Nat → Int32) (s1₉ : Nat → Int64) (ld₉ lu₉ : Int32) (fo₉ qd₉ sp₉ w0₉ h0₉ n0₉ : Int32) (wl0₉ t0₉ : Int64) (k0₉ p0₉ l0₉ g0₉ a0₉ wd0₉ hg0₉ : Nat → Int32) (s0₉ lo₉ hi₉ : Nat → Int64) (sl₉ sf₉ mv₉ di₉ qu₉ : Nat → Int32) (kn₉ um₉ rm₉ sn₉ ed₉ : Int32) (lsort₉ lmany₉ lnum₉ kwl₉ kk₉ kat₉ ks₉ ky₉ kg₉ kpl₉ khd₉ kch₉ kdp₉ kpr₉ kbb₉ kby₉ kbs₉ kf₉ kfe₉ ked₉ keb₉ kwho₉ khe₉ : Nat → Int32), f_BargeBasin_trim_search11 st csort csize cnum cw chh cn cwl ct ck cp cl cg ca cwd chg cs b1 d1 c1 w1 t1 k1 p1 l1 g1 a1 wd1 hg1 s1 ld lu fo qd sp w0 h0 n0 wl0 t0 k0 p0 l0 g0 a0 wd0 hg0 s0 lo hi sl sf mv di qu = some (ans, st₉, csort₉, csize₉, cnum₉, cn₉, cwl₉, ct₉, ck₉, cp₉, cl₉, cg₉, ca₉, cwd₉, chg₉, cs₉, b1₉, d1₉, c1₉, w1₉, t1₉, k1₉, p1₉, l1₉, g1₉, a1₉, wd1₉, hg1₉, s1₉, ld₉, lu₉, fo₉, qd₉, sp₉, w0₉, h0₉, n0₉, wl0₉, t0₉, k0₉, p0₉, l0₉, g0₉, a0₉, wd0₉, hg0₉, s0₉, lo₉, hi₉, sl₉, sf₉, mv₉, di₉, qu₉) ∧
      f_BargeBasinModel_trim st2 th khas kw kh kn um rm sn ed lsort lmany lnum kwl kk kat ks ky kg kpl khd kch kdp kpr kbb kby kbs kf kfe ked keb kwho khe = some (ans, st₉, 0, kn₉, um₉, rm₉, sn₉, ed₉, lsort₉, lmany₉, lnum₉, kwl₉, kk₉, kat₉, ks₉, ky₉, kg₉, kpl₉, khd₉, kch₉, kdp₉, kpr₉, kbb₉, kby₉, kbs₉, kf₉, kfe₉, ked₉, keb₉, kwho₉, khe₉) ∧ okX Z ∧ chX Z.1 Z.2 cw chh cn₉ cwl₉ ct₉ ck₉ cp₉ cl₉ cg₉ ca₉ cwd₉ chg₉ cs₉ ∧ rfX Z.1 Z.2 khas kw kh kn₉ kwl₉ kk₉ kat₉ ks₉ ky₉ kg₉ ∧ lgR Z.1 Z.2 lf ld₉ lu₉ lm um₉ rm₉ ub uf ut rb rf rt ∧ lnR Z.1 csort₉ csize₉ cnum₉ lsort₉ lmany₉ lnum₉ ∧ schI fo₉ sl₉ sf₉ := by
  rcases s_trim_11 hX hc st ld lu csort csize cnum b1 d1 c1 w1 t1 k1 p1 l1 g1 a1 wd1 hg1 s1 fo qd sp w0 h0 n0 wl0 t0 k0 p0 l0 g0 a0 wd0 hg0 s0 lo hi sl sf mv di qu hs with ⟨st1, fo₉, qd₉, sp₉, w0₉, h0₉, n0₉, wl0₉, t0₉, k0₉, p0₉, l0₉, g0₉, a0₉, wd0₉, hg0₉, s0₉, lo₉, hi₉, sl₉, sf₉, mv₉, di₉, qu₉, f1, f2, e1, sc⟩ | ⟨least, v2, v3, Z, b, csort₉, csize₉, cnum₉, cn₉, cwl₉, ct₉, ck₉, cp₉, cl₉, cg₉, ca₉, cwd₉, chg₉, cs₉, b1₉, d1₉, c1₉, w1₉, t1₉, k1₉, p1₉, l1₉, g1₉, a1₉, wd1₉, hg1₉, s1₉, fo₉, qd₉, sp₉, w0₉, h0₉, n0₉, wl0₉, t0₉, k0₉, p0₉, l0₉, g0₉, a0₉, wd0₉, hg0₉, s0₉, lo₉, hi₉, sl₉, sf₉, mv₉, di₉, qu₉, f1, f2, f3, f4, e1, y1, sc, f5⟩ <;> rcases m_trim (um := um) (rm := rm) (csort := csort) (csize := csize) (cnum := cnum) (lsort := lsort) (lmany := lmany) (lnum := lnum) hX hr st2 th sn ed kpl khd kch kdp kpr kbb kby kbs kf kfe ked keb kwho khe with ⟨st3, sn₉, ed₉, kpl₉, khd₉, kch₉, kdp₉, kpr₉, kbb₉, kby₉, kbs₉, kf₉, kfe₉, ked₉, keb₉, kwho₉, khe₉, g1, g2, e2⟩ | ⟨least2, u2, u3, Z2, b2, kn₉, sn₉, ed₉, lsort₉, lmany₉, lnum₉, kwl₉, kk₉, kat₉, ks₉, ky₉, kg₉, kpl₉, khd₉, kch₉, kdp₉, kpr₉, kbb₉, kby₉, kbs₉, kf₉, kfe₉, ked₉, keb₉, kwho₉, khe₉, g1, g2, g3, g4, e2, y2, g5⟩
  · have es := (far_u f1 g1).2
    subst es
    exact ⟨X, _, _, _, _, _, _, _, _, _, _, _, _, _, _, _, _, _, _, _, _, _, _, _, _, _, _, _, _, _, _, _, _, _, _, _, _, _, _, _, _, _, _, _, _, _, _, _, _, _, _, _, _, _, _, _, _, _, _, _, _, _, _, _, _, _, _, _, _, _, _, _, _, _, _, _, _, _, _, _, _, _, _, e1, e2, hX, hc, hr, hl, hn, sc⟩
  · exact absurd (far_no f1 f2 g1 g2) id
  · exact absurd (far_no g1 g2 f1 f2) id
  · obtain ⟨ez, ev2, ev3⟩ := tr_u f2 g2 f4 g4
    subst ez; subst ev2; subst ev3
    obtain ⟨o1, o2, o3, o4⟩ := tr_ok hX f4
    refine ⟨Z, _, _, _, _, _, _, _, _, _, _, _, _, _, _, _, _, _, _, _, _, _, _, _, _, _, _, _, _, _, _, _, _, _, _, _, _, _, _, _, _, _, _, _, _, _, _, _, _, _, _, _, _, _, _, _, _, _, _, _, _, _, _, _, _, _, _, _, _, _, _, _, _, _, _, _, _, _, _, _, _, _, _, e1, e2, o1, y1, y2, lgR_forget hl o1.2.1, ?_, sc⟩
    rcases f5 with ⟨w0, w1, w2, w3⟩ | ⟨w0, w1, w2⟩
    · rcases g5 with ⟨-, w4, w5, w6⟩ | ⟨w4, -, -⟩
      · subst w1; subst w2; subst w3; subst w4; subst w5; subst w6
        exact lnR_cg o2 o3 (o4 w0) hn
      · omega
    · rcases g5 with ⟨w4, -, -, -⟩ | ⟨-, w4, w5⟩
      · omega
      · exact byw_ln o1.1 o1.2.2 w1 w2 w4 (fun z h1 h2 => by rw [w5 z h1]; exact hn.2.2.2 z (by rw [← o3]; exact h1) h2)
theorem eq_trim_01 {X : BP} {cw chh cn : Int32} {cwl ct : Int64} {ck cp cl cg ca cwd chg : Nat → Int32} {cs : Nat → Int64} {khas kw kh kn : Int32} {kwl kk kat ks ky kg : Nat → Int32} {lf ld lu um rm : Int32} {lm ub uf ut rb rf rt : Nat → Int32} {csort csize cnum lsort lmany lnum : Nat → Int32} (hX : okX X) (hc : chX X.1 X.2 cw chh cn cwl ct ck cp cl cg ca cwd chg cs) (hr : rfX X.1 X.2 khas kw kh kn kwl kk kat ks ky kg) (hl : lgR X.1 X.2 lf ld lu lm um rm ub uf ut rb rf rt) (hn : lnR X.1 csort csize cnum lsort lmany lnum) (st st2 th sn ed : Int32) (b1 d1 c1 : Int32) (w1 t1 : Int64) (k1 p1 l1 g1 a1 wd1 hg1 : Nat → Int32) (s1 : Nat → Int64) (kpl khd kch kdp kpr kbb kby kbs kf kfe ked keb kwho khe : Nat → Int32) :
    ∃ (Z : BP) (ans st₉ : Int32) (csort₉ csize₉ cnum₉ : Nat → Int32) (cn₉ : Int32) (cwl₉ ct₉ : Int64) (ck₉ cp₉ cl₉ cg₉ ca₉ cwd₉ chg₉ : Nat → Int32) (cs₉ : Nat → Int64) (b1₉ d1₉ c1₉ : Int32) (w1₉ t1₉ : Int64) (k1₉ p1₉ l1₉ g1₉ a1₉ wd1₉ hg1₉ : Nat → Int32) (s1₉ : Nat → Int64) (ld₉ lu₉ : Int32) (fo₉ qd₉ sp₉ w0₉ h0₉ n0₉ : Int32) (wl0₉ t0₉ : Int64) (k0₉ p0₉ l0₉ g0₉ a0₉ wd0₉ hg0₉ : Nat → Int32) (s0₉ lo₉ hi₉ : Nat → Int64) (sl₉ sf₉ mv₉ di₉ qu₉ : Nat → Int32) (kn₉ um₉ rm₉ sn₉ ed₉ : Int32) (lsort₉ lmany₉ lnum₉ kwl₉ kk₉ kat₉ ks₉ ky₉ kg₉ kpl₉ khd₉ kch₉ kdp₉ kpr₉ kbb₉ kby₉ kbs₉ kf₉ kfe₉ ked₉ keb₉ kwho₉ khe₉ : Nat → Int32), f_BargeBasin_trim_search01 st csort csize cnum cw chh cn cwl ct ck cp cl cg ca cwd chg cs b1 d1 c1 w1 t1 k1 p1 l1 g1 a1 wd1 hg1 s1 ld lu = some (ans, st₉, csort₉, csize₉, cnum₉, cn₉, cwl₉, ct₉, ck₉, cp₉, cl₉, cg₉, ca₉, cwd₉, chg₉, cs₉, b1₉, d1₉, c1₉, w1₉, t1₉, k1₉, p1₉, l1₉, g1₉, a1₉, wd1₉, hg1₉, s1₉, ld₉, lu₉, fo₉, qd₉, sp₉, w0₉, h0₉, n0₉, wl0₉, t0₉, k0₉, p0₉, l0₉, g0₉, a0₉, wd0₉, hg0₉, s0₉, lo₉, hi₉, sl₉, sf₉, mv₉, di₉, qu₉) ∧
      f_BargeBasinModel_trim st2 th khas kw kh kn um rm sn ed lsort lmany lnum kwl kk kat ks ky kg kpl khd kch kdp kpr kbb kby kbs kf kfe ked keb kwho khe = some (ans, st₉, 0, kn₉, um₉, rm₉, sn₉, ed₉, lsort₉, lmany₉, lnum₉, kwl₉, kk₉, kat₉, ks₉, ky₉, kg₉, kpl₉, khd₉, kch₉, kdp₉, kpr₉, kbb₉, kby₉, kbs₉, kf₉, kfe₉, ked₉, keb₉, kwho₉, khe₉) ∧ okX Z ∧ chX Z.1 Z.2 cw chh cn₉ cwl₉ ct₉ ck₉ cp₉ cl₉ cg₉ ca₉ cwd₉ chg₉ cs₉ ∧ rfX Z.1 Z.2 khas kw kh kn₉ kwl₉ kk₉ kat₉ ks₉ ky₉ kg₉ ∧ lgR Z.1 Z.2 lf ld₉ lu₉ lm um₉ rm₉ ub uf ut rb rf rt ∧ lnR Z.1 csort₉ csize₉ cnum₉ lsort₉ lmany₉ lnum₉ ∧ schI fo₉ sl₉ sf₉ := by
  rcases s_trim_01 hX hc st ld lu csort csize cnum b1 d1 c1 w1 t1 k1 p1 l1 g1 a1 wd1 hg1 s1 with ⟨st1, fo₉, qd₉, sp₉, w0₉, h0₉, n0₉, wl0₉, t0₉, k0₉, p0₉, l0₉, g0₉, a0₉, wd0₉, hg0₉, s0₉, lo₉, hi₉, sl₉, sf₉, mv₉, di₉, qu₉, f1, f2, e1, sc⟩ | ⟨least, v2, v3, Z, b, csort₉, csize₉, cnum₉, cn₉, cwl₉, ct₉, ck₉, cp₉, cl₉, cg₉, ca₉, cwd₉, chg₉, cs₉, b1₉, d1₉, c1₉, w1₉, t1₉, k1₉, p1₉, l1₉, g1₉, a1₉, wd1₉, hg1₉, s1₉, fo₉, qd₉, sp₉, w0₉, h0₉, n0₉, wl0₉, t0₉, k0₉, p0₉, l0₉, g0₉, a0₉, wd0₉, hg0₉, s0₉, lo₉, hi₉, sl₉, sf₉, mv₉, di₉, qu₉, f1, f2, f3, f4, e1, y1, sc, f5⟩ <;> rcases m_trim (um := um) (rm := rm) (csort := csort) (csize := csize) (cnum := cnum) (lsort := lsort) (lmany := lmany) (lnum := lnum) hX hr st2 th sn ed kpl khd kch kdp kpr kbb kby kbs kf kfe ked keb kwho khe with ⟨st3, sn₉, ed₉, kpl₉, khd₉, kch₉, kdp₉, kpr₉, kbb₉, kby₉, kbs₉, kf₉, kfe₉, ked₉, keb₉, kwho₉, khe₉, g1, g2, e2⟩ | ⟨least2, u2, u3, Z2, b2, kn₉, sn₉, ed₉, lsort₉, lmany₉, lnum₉, kwl₉, kk₉, kat₉, ks₉, ky₉, kg₉, kpl₉, khd₉, kch₉, kdp₉, kpr₉, kbb₉, kby₉, kbs₉, kf₉, kfe₉, ked₉, keb₉, kwho₉, khe₉, g1, g2, g3, g4, e2, y2, g5⟩
  · have es := (far_u f1 g1).2
    subst es
    exact ⟨X, _, _, _, _, _, _, _, _, _, _, _, _, _, _, _, _, _, _, _, _, _, _, _, _, _, _, _, _, _, _, _, _, _, _, _, _, _, _, _, _, _, _, _, _, _, _, _, _, _, _, _, _, _, _, _, _, _, _, _, _, _, _, _, _, _, _, _, _, _, _, _, _, _, _, _, _, _, _, _, _, _, _, e1, e2, hX, hc, hr, hl, hn, sc⟩
  · exact absurd (far_no f1 f2 g1 g2) id
  · exact absurd (far_no g1 g2 f1 f2) id
  · obtain ⟨ez, ev2, ev3⟩ := tr_u f2 g2 f4 g4
    subst ez; subst ev2; subst ev3
    obtain ⟨o1, o2, o3, o4⟩ := tr_ok hX f4
    refine ⟨Z, _, _, _, _, _, _, _, _, _, _, _, _, _, _, _, _, _, _, _, _, _, _, _, _, _, _, _, _, _, _, _, _, _, _, _, _, _, _, _, _, _, _, _, _, _, _, _, _, _, _, _, _, _, _, _, _, _, _, _, _, _, _, _, _, _, _, _, _, _, _, _, _, _, _, _, _, _, _, _, _, _, _, e1, e2, o1, y1, y2, lgR_forget hl o1.2.1, ?_, sc⟩
    rcases f5 with ⟨w0, w1, w2, w3⟩ | ⟨w0, w1, w2⟩
    · rcases g5 with ⟨-, w4, w5, w6⟩ | ⟨w4, -, -⟩
      · subst w1; subst w2; subst w3; subst w4; subst w5; subst w6
        exact lnR_cg o2 o3 (o4 w0) hn
      · omega
    · rcases g5 with ⟨w4, -, -, -⟩ | ⟨-, w4, w5⟩
      · omega
      · exact byw_ln o1.1 o1.2.2 w1 w2 w4 (fun z h1 h2 => by rw [w5 z h1]; exact hn.2.2.2 z (by rw [← o3]; exact h1) h2)
end
section
/-! far and go of both sides. -/
theorem eq_far_11 {X : BP} {cw chh cn : Int32} {cwl ct : Int64} {ck cp cl cg ca cwd chg : Nat → Int32} {cs : Nat → Int64} {khas kw kh kn : Int32} {kwl kk kat ks ky kg : Nat → Int32} (hX : okX X) (hc : chX X.1 X.2 cw chh cn cwl ct ck cp cl cg ca cwd chg cs) (hr : rfX X.1 X.2 khas kw kh kn kwl kk kat ks ky kg) (st st2 th sn ed : Int32) (fo qd sp w0 h0 n0 : Int32) (wl0 t0 : Int64) (k0 p0 l0 g0 a0 wd0 hg0 : Nat → Int32) (s0 lo hi : Nat → Int64) (sl sf mv di qu : Nat → Int32) (hs : schI fo sl sf) (kpl khd kch kdp kpr kbb kby kbs kf kfe ked keb kwho khe : Nat → Int32) :
    ∃ (ans st₉ : Int32) (fo₉ qd₉ sp₉ w0₉ h0₉ n0₉ : Int32) (wl0₉ t0₉ : Int64) (k0₉ p0₉ l0₉ g0₉ a0₉ wd0₉ hg0₉ : Nat → Int32) (s0₉ lo₉ hi₉ : Nat → Int64) (sl₉ sf₉ mv₉ di₉ qu₉ : Nat → Int32) (sn₉ ed₉ : Int32) (kpl₉ khd₉ kch₉ kdp₉ kpr₉ kbb₉ kby₉ kbs₉ kf₉ kfe₉ ked₉ keb₉ kwho₉ khe₉ : Nat → Int32), f_BargeBasin_far_search11 st cw chh cn cwl ct ck cp cl cg ca cwd chg cs fo qd sp w0 h0 n0 wl0 t0 k0 p0 l0 g0 a0 wd0 hg0 s0 lo hi sl sf mv di qu = some (ans, st₉, fo₉, qd₉, sp₉, w0₉, h0₉, n0₉, wl0₉, t0₉, k0₉, p0₉, l0₉, g0₉, a0₉, wd0₉, hg0₉, s0₉, lo₉, hi₉, sl₉, sf₉, mv₉, di₉, qu₉) ∧ f_BargeBasinModel_far st2 th khas kw kh kn sn ed kwl kk kat ks ky kg kpl khd kch kdp kpr kbb kby kbs kf kfe ked keb kwho khe = some (ans, st₉, 0, sn₉, ed₉, kpl₉, khd₉, kch₉, kdp₉, kpr₉, kbb₉, kby₉, kbs₉, kf₉, kfe₉, ked₉, keb₉, kwho₉, khe₉) ∧ schI fo₉ sl₉ sf₉ := by
  obtain ⟨r1, r2, r3, r4, r5, r6, r7, r8⟩ := hr
  subst r1; subst r2; subst r3; subst r4
  obtain ⟨a, s, fo₉, qd₉, sp₉, w0₉, h0₉, n0₉, wl0₉, t0₉, k0₉, p0₉, l0₉, g0₉, a0₉, wd0₉, hg0₉, s0₉, lo₉, hi₉, sl₉, sf₉, mv₉, di₉, qu₉, e1, sc, f1⟩ := s_far_11 hX.1 hX.2.1 hc hs qd sp w0 h0 n0 wl0 t0 k0 p0 l0 g0 a0 wd0 hg0 s0 lo hi mv di qu st
  obtain ⟨a₉, s₉, sn₉, ed₉, kpl₉, khd₉, kch₉, kdp₉, kpr₉, kbb₉, kby₉, kbs₉, kf₉, kfe₉, ked₉, keb₉, kwho₉, khe₉, e2, f2⟩ := m_far hX.1 hX.2.1 r6 r5 r7 r8 st2 th sn ed kpl khd kch kdp kpr kbb kby kbs kf kfe ked keb kwho khe
  obtain ⟨ea, es⟩ := far_u f1 f2
  subst ea; subst es
  exact ⟨a, s, fo₉, qd₉, sp₉, w0₉, h0₉, n0₉, wl0₉, t0₉, k0₉, p0₉, l0₉, g0₉, a0₉, wd0₉, hg0₉, s0₉, lo₉, hi₉, sl₉, sf₉, mv₉, di₉, qu₉, sn₉, ed₉, kpl₉, khd₉, kch₉, kdp₉, kpr₉, kbb₉, kby₉, kbs₉, kf₉, kfe₉, ked₉, keb₉, kwho₉, khe₉, e1, e2, sc⟩
theorem eq_go_11 {X : BP} {cw chh cn : Int32} {cwl ct : Int64} {ck cp cl cg ca cwd chg : Nat → Int32} {cs : Nat → Int64} {khas kw kh kn : Int32} {kwl kk kat ks ky kg : Nat → Int32} {lf ld lu um rm : Int32} {lm ub uf ut rb rf rt : Nat → Int32} (hX : okX X) (hc : chX X.1 X.2 cw chh cn cwl ct ck cp cl cg ca cwd chg cs) (hr : rfX X.1 X.2 khas kw kh kn kwl kk kat ks ky kg) (hl : lgR X.1 X.2 lf ld lu lm um rm ub uf ut rb rf rt) (st st2 th sn ed : Int32) (fo qd sp w0 h0 n0 : Int32) (wl0 t0 : Int64) (k0 p0 l0 g0 a0 wd0 hg0 : Nat → Int32) (s0 lo hi : Nat → Int64) (sl sf mv di qu : Nat → Int32) (hs : schI fo sl sf) (kpl khd kch kdp kpr kbb kby kbs kf kfe ked keb kwho khe : Nat → Int32) :
    ∃ (Q : Nat → Nat) (ans st₉ : Int32) (ct₉ : Int64) (cp₉ : Nat → Int32) (ld₉ lu₉ : Int32) (fo₉ qd₉ sp₉ w0₉ h0₉ n0₉ : Int32) (wl0₉ t0₉ : Int64) (k0₉ p0₉ l0₉ g0₉ a0₉ wd0₉ hg0₉ : Nat → Int32) (s0₉ lo₉ hi₉ : Nat → Int64) (sl₉ sf₉ mv₉ di₉ qu₉ : Nat → Int32) (um₉ rm₉ sn₉ ed₉ : Int32) (kat₉ kpl₉ khd₉ kch₉ kdp₉ kpr₉ kbb₉ kby₉ kbs₉ kf₉ kfe₉ ked₉ keb₉ kwho₉ khe₉ : Nat → Int32), f_BargeBasin_go_search11 st cw chh cn cwl ct ck cp cl cg ca cwd chg cs ld lu fo qd sp w0 h0 n0 wl0 t0 k0 p0 l0 g0 a0 wd0 hg0 s0 lo hi sl sf mv di qu = some (ans, st₉, ct₉, cp₉, ld₉, lu₉, fo₉, qd₉, sp₉, w0₉, h0₉, n0₉, wl0₉, t0₉, k0₉, p0₉, l0₉, g0₉, a0₉, wd0₉, hg0₉, s0₉, lo₉, hi₉, sl₉, sf₉, mv₉, di₉, qu₉) ∧ f_BargeBasinModel_go st2 th khas kw kh kn um rm sn ed kwl kk kat ks ky kg kpl khd kch kdp kpr kbb kby kbs kf kfe ked keb kwho khe = some (ans, st₉, 0, um₉, rm₉, sn₉, ed₉, kat₉, kpl₉, khd₉, kch₉, kdp₉, kpr₉, kbb₉, kby₉, kbs₉, kf₉, kfe₉, ked₉, keb₉, kwho₉, khe₉) ∧ okX (X.1, Q) ∧ chX X.1 Q cw chh cn cwl ct₉ ck cp₉ cl cg ca cwd chg cs ∧ rfX X.1 Q khas kw kh kn kwl kk kat₉ ks ky kg ∧ lgR X.1 Q lf ld₉ lu₉ lm um₉ rm₉ ub uf ut rb rf rt ∧ schI fo₉ sl₉ sf₉ := by
  have hr0 := hr
  have hc0 := hc
  obtain ⟨r1, r2, r3, r4, r5, r6, r7, r8⟩ := hr
  obtain ⟨x1, x2, x3, x4, x5, x6, x7, x8, x9⟩ := hc
  subst r1; subst r2; subst r3; subst r4
  obtain ⟨a, s, ct₉, cp₉, ld₉, lu₉, fo₉, qd₉, sp₉, w0₉, h0₉, n0₉, wl0₉, t0₉, k0₉, p0₉, l0₉, g0₉, a0₉, wd0₉, hg0₉, s0₉, lo₉, hi₉, sl₉, sf₉, mv₉, di₉, qu₉, e1, sc, f1⟩ := s_go_11 hX.1 hX.2.1 hc0 hs qd sp w0 h0 n0 wl0 t0 k0 p0 l0 g0 a0 wd0 hg0 s0 lo hi mv di qu st ld lu
  obtain ⟨a₉, s₉, um₉, rm₉, sn₉, ed₉, kat₉, kpl₉, khd₉, kch₉, kdp₉, kpr₉, kbb₉, kby₉, kbs₉, kf₉, kfe₉, ked₉, keb₉, kwho₉, khe₉, e2, f2⟩ := m_go hX.1 hX.2.1 r6 r5 r7 r8 st2 th um rm sn ed kpl khd kch kdp kpr kbb kby kbs kf kfe ked keb kwho khe
  rcases f1 with ⟨t, p1, p2, p3, p4, p5, p6, p7, p8⟩ | ⟨p0, b, k, p1, p3, p4, p5, p6, p7, p8⟩ <;> rcases f2 with ⟨u, q1, q2, q3, q4, q5, q6, q7⟩ | ⟨q0, c, j, q1, q3, q4, q5, q6, q7⟩
  · have es := (far_u p1 q1).2
    subst es; subst p3; subst p4; subst p5; subst p6; subst p7; subst p8; subst q3; subst q4; subst q5; subst q6; subst q7
    exact ⟨X.2, 0, _, ct₉, cp₉, ld₉, lu₉, fo₉, qd₉, sp₉, w0₉, h0₉, n0₉, wl0₉, t0₉, k0₉, p0₉, l0₉, g0₉, a0₉, wd0₉, hg0₉, s0₉, lo₉, hi₉, sl₉, sf₉, mv₉, di₉, qu₉, um₉, rm₉, sn₉, ed₉, kat₉, kpl₉, khd₉, kch₉, kdp₉, kpr₉, kbb₉, kby₉, kbs₉, kf₉, kfe₉, ked₉, keb₉, kwho₉, khe₉, e1, e2, hX, hc0, hr0, hl, sc⟩
  · exact absurd (far_no p1 p2 q0 q1) id
  · exact absurd (far_no q1 q2 p0 p1) id
  · have eb := (bst_u p1 q1).1
    subst eb
    have og := ok_gt hX p0 p1
    generalize gt (FL X.1 7 X.2) b = Q at *
    subst p3; subst p4; subst p5; subst p6; subst q3; subst q4; subst q5; subst q6
    exact ⟨Q, 1, 0, ct₉, cp₉, 0, 0, fo₉, qd₉, sp₉, w0₉, h0₉, n0₉, wl0₉, t0₉, k0₉, p0₉, l0₉, g0₉, a0₉, wd0₉, hg0₉, s0₉, lo₉, hi₉, sl₉, sf₉, mv₉, di₉, qu₉, 0, 0, sn₉, ed₉, kat₉, kpl₉, khd₉, kch₉, kdp₉, kpr₉, kbb₉, kby₉, kbs₉, kf₉, kfe₉, ked₉, keb₉, kwho₉, khe₉, e1, e2, og, ⟨x1, x2, x3, x4, p7, x6, p8, x8, x9⟩, ⟨rfl, rfl, rfl, rfl, r5, r6, q7, r8⟩, lgR_forget hl og.2.1, sc⟩
theorem eq_far_01 {X : BP} {cw chh cn : Int32} {cwl ct : Int64} {ck cp cl cg ca cwd chg : Nat → Int32} {cs : Nat → Int64} {khas kw kh kn : Int32} {kwl kk kat ks ky kg : Nat → Int32} (hX : okX X) (hc : chX X.1 X.2 cw chh cn cwl ct ck cp cl cg ca cwd chg cs) (hr : rfX X.1 X.2 khas kw kh kn kwl kk kat ks ky kg) (st st2 th sn ed : Int32) (kpl khd kch kdp kpr kbb kby kbs kf kfe ked keb kwho khe : Nat → Int32) :
    ∃ (ans st₉ : Int32) (fo₉ qd₉ sp₉ w0₉ h0₉ n0₉ : Int32) (wl0₉ t0₉ : Int64) (k0₉ p0₉ l0₉ g0₉ a0₉ wd0₉ hg0₉ : Nat → Int32) (s0₉ lo₉ hi₉ : Nat → Int64) (sl₉ sf₉ mv₉ di₉ qu₉ : Nat → Int32) (sn₉ ed₉ : Int32) (kpl₉ khd₉ kch₉ kdp₉ kpr₉ kbb₉ kby₉ kbs₉ kf₉ kfe₉ ked₉ keb₉ kwho₉ khe₉ : Nat → Int32), f_BargeBasin_far_search01 st cw chh cn cwl ct ck cp cl cg ca cwd chg cs = some (ans, st₉, fo₉, qd₉, sp₉, w0₉, h0₉, n0₉, wl0₉, t0₉, k0₉, p0₉, l0₉, g0₉, a0₉, wd0₉, hg0₉, s0₉, lo₉, hi₉, sl₉, sf₉, mv₉, di₉, qu₉) ∧ f_BargeBasinModel_far st2 th khas kw kh kn sn ed kwl kk kat ks ky kg kpl khd kch kdp kpr kbb kby kbs kf kfe ked keb kwho khe = some (ans, st₉, 0, sn₉, ed₉, kpl₉, khd₉, kch₉, kdp₉, kpr₉, kbb₉, kby₉, kbs₉, kf₉, kfe₉, ked₉, keb₉, kwho₉, khe₉) ∧ schI fo₉ sl₉ sf₉ := by
  obtain ⟨r1, r2, r3, r4, r5, r6, r7, r8⟩ := hr
  subst r1; subst r2; subst r3; subst r4
  obtain ⟨a, s, fo₉, qd₉, sp₉, w0₉, h0₉, n0₉, wl0₉, t0₉, k0₉, p0₉, l0₉, g0₉, a0₉, wd0₉, hg0₉, s0₉, lo₉, hi₉, sl₉, sf₉, mv₉, di₉, qu₉, e1, sc, f1⟩ := s_far_01 hX.1 hX.2.1 hc st
  obtain ⟨a₉, s₉, sn₉, ed₉, kpl₉, khd₉, kch₉, kdp₉, kpr₉, kbb₉, kby₉, kbs₉, kf₉, kfe₉, ked₉, keb₉, kwho₉, khe₉, e2, f2⟩ := m_far hX.1 hX.2.1 r6 r5 r7 r8 st2 th sn ed kpl khd kch kdp kpr kbb kby kbs kf kfe ked keb kwho khe
  obtain ⟨ea, es⟩ := far_u f1 f2
  subst ea; subst es
  exact ⟨a, s, fo₉, qd₉, sp₉, w0₉, h0₉, n0₉, wl0₉, t0₉, k0₉, p0₉, l0₉, g0₉, a0₉, wd0₉, hg0₉, s0₉, lo₉, hi₉, sl₉, sf₉, mv₉, di₉, qu₉, sn₉, ed₉, kpl₉, khd₉, kch₉, kdp₉, kpr₉, kbb₉, kby₉, kbs₉, kf₉, kfe₉, ked₉, keb₉, kwho₉, khe₉, e1, e2, sc⟩
theorem eq_go_01 {X : BP} {cw chh cn : Int32} {cwl ct : Int64} {ck cp cl cg ca cwd chg : Nat → Int32} {cs : Nat → Int64} {khas kw kh kn : Int32} {kwl kk kat ks ky kg : Nat → Int32} {lf ld lu um rm : Int32} {lm ub uf ut rb rf rt : Nat → Int32} (hX : okX X) (hc : chX X.1 X.2 cw chh cn cwl ct ck cp cl cg ca cwd chg cs) (hr : rfX X.1 X.2 khas kw kh kn kwl kk kat ks ky kg) (hl : lgR X.1 X.2 lf ld lu lm um rm ub uf ut rb rf rt) (st st2 th sn ed : Int32) (kpl khd kch kdp kpr kbb kby kbs kf kfe ked keb kwho khe : Nat → Int32) :
    ∃ (Q : Nat → Nat) (ans st₉ : Int32) (ct₉ : Int64) (cp₉ : Nat → Int32) (ld₉ lu₉ : Int32) (fo₉ qd₉ sp₉ w0₉ h0₉ n0₉ : Int32) (wl0₉ t0₉ : Int64) (k0₉ p0₉ l0₉ g0₉ a0₉ wd0₉ hg0₉ : Nat → Int32) (s0₉ lo₉ hi₉ : Nat → Int64) (sl₉ sf₉ mv₉ di₉ qu₉ : Nat → Int32) (um₉ rm₉ sn₉ ed₉ : Int32) (kat₉ kpl₉ khd₉ kch₉ kdp₉ kpr₉ kbb₉ kby₉ kbs₉ kf₉ kfe₉ ked₉ keb₉ kwho₉ khe₉ : Nat → Int32), f_BargeBasin_go_search01 st cw chh cn cwl ct ck cp cl cg ca cwd chg cs ld lu = some (ans, st₉, ct₉, cp₉, ld₉, lu₉, fo₉, qd₉, sp₉, w0₉, h0₉, n0₉, wl0₉, t0₉, k0₉, p0₉, l0₉, g0₉, a0₉, wd0₉, hg0₉, s0₉, lo₉, hi₉, sl₉, sf₉, mv₉, di₉, qu₉) ∧ f_BargeBasinModel_go st2 th khas kw kh kn um rm sn ed kwl kk kat ks ky kg kpl khd kch kdp kpr kbb kby kbs kf kfe ked keb kwho khe = some (ans, st₉, 0, um₉, rm₉, sn₉, ed₉, kat₉, kpl₉, khd₉, kch₉, kdp₉, kpr₉, kbb₉, kby₉, kbs₉, kf₉, kfe₉, ked₉, keb₉, kwho₉, khe₉) ∧ okX (X.1, Q) ∧ chX X.1 Q cw chh cn cwl ct₉ ck cp₉ cl cg ca cwd chg cs ∧ rfX X.1 Q khas kw kh kn kwl kk kat₉ ks ky kg ∧ lgR X.1 Q lf ld₉ lu₉ lm um₉ rm₉ ub uf ut rb rf rt ∧ schI fo₉ sl₉ sf₉ := by
  have hr0 := hr
  have hc0 := hc
  obtain ⟨r1, r2, r3, r4, r5, r6, r7, r8⟩ := hr
  obtain ⟨x1, x2, x3, x4, x5, x6, x7, x8, x9⟩ := hc
  subst r1; subst r2; subst r3; subst r4
  obtain ⟨a, s, ct₉, cp₉, ld₉, lu₉, fo₉, qd₉, sp₉, w0₉, h0₉, n0₉, wl0₉, t0₉, k0₉, p0₉, l0₉, g0₉, a0₉, wd0₉, hg0₉, s0₉, lo₉, hi₉, sl₉, sf₉, mv₉, di₉, qu₉, e1, sc, f1⟩ := s_go_01 hX.1 hX.2.1 hc0 st ld lu
  obtain ⟨a₉, s₉, um₉, rm₉, sn₉, ed₉, kat₉, kpl₉, khd₉, kch₉, kdp₉, kpr₉, kbb₉, kby₉, kbs₉, kf₉, kfe₉, ked₉, keb₉, kwho₉, khe₉, e2, f2⟩ := m_go hX.1 hX.2.1 r6 r5 r7 r8 st2 th um rm sn ed kpl khd kch kdp kpr kbb kby kbs kf kfe ked keb kwho khe
  rcases f1 with ⟨t, p1, p2, p3, p4, p5, p6, p7, p8⟩ | ⟨p0, b, k, p1, p3, p4, p5, p6, p7, p8⟩ <;> rcases f2 with ⟨u, q1, q2, q3, q4, q5, q6, q7⟩ | ⟨q0, c, j, q1, q3, q4, q5, q6, q7⟩
  · have es := (far_u p1 q1).2
    subst es; subst p3; subst p4; subst p5; subst p6; subst p7; subst p8; subst q3; subst q4; subst q5; subst q6; subst q7
    exact ⟨X.2, 0, _, ct₉, cp₉, ld₉, lu₉, fo₉, qd₉, sp₉, w0₉, h0₉, n0₉, wl0₉, t0₉, k0₉, p0₉, l0₉, g0₉, a0₉, wd0₉, hg0₉, s0₉, lo₉, hi₉, sl₉, sf₉, mv₉, di₉, qu₉, um₉, rm₉, sn₉, ed₉, kat₉, kpl₉, khd₉, kch₉, kdp₉, kpr₉, kbb₉, kby₉, kbs₉, kf₉, kfe₉, ked₉, keb₉, kwho₉, khe₉, e1, e2, hX, hc0, hr0, hl, sc⟩
  · exact absurd (far_no p1 p2 q0 q1) id
  · exact absurd (far_no q1 q2 p0 p1) id
  · have eb := (bst_u p1 q1).1
    subst eb
    have og := ok_gt hX p0 p1
    generalize gt (FL X.1 7 X.2) b = Q at *
    subst p3; subst p4; subst p5; subst p6; subst q3; subst q4; subst q5; subst q6
    exact ⟨Q, 1, 0, ct₉, cp₉, 0, 0, fo₉, qd₉, sp₉, w0₉, h0₉, n0₉, wl0₉, t0₉, k0₉, p0₉, l0₉, g0₉, a0₉, wd0₉, hg0₉, s0₉, lo₉, hi₉, sl₉, sf₉, mv₉, di₉, qu₉, 0, 0, sn₉, ed₉, kat₉, kpl₉, khd₉, kch₉, kdp₉, kpr₉, kbb₉, kby₉, kbs₉, kf₉, kfe₉, ked₉, keb₉, kwho₉, khe₉, e1, e2, og, ⟨x1, x2, x3, x4, p7, x6, p8, x8, x9⟩, ⟨rfl, rfl, rfl, rfl, r5, r6, q7, r8⟩, lgR_forget hl og.2.1, sc⟩
end
section
/-! reach, all, must of both sides. -/
theorem eq_reach_11 {X : BP} {cw chh cn : Int32} {cwl ct : Int64} {ck cp cl cg ca cwd chg : Nat → Int32} {cs : Nat → Int64} {khas kw kh kn : Int32} {kwl kk kat ks ky kg : Nat → Int32} (hX : okX X) (hc : chX X.1 X.2 cw chh cn cwl ct ck cp cl cg ca cwd chg cs) (hr : rfX X.1 X.2 khas kw kh kn kwl kk kat ks ky kg) (st st2 th sn ed : Int32) (fo sp w0 h0 n0 : Int32) (wl0 t0 : Int64) (k0 p0 l0 g0 a0 wd0 hg0 : Nat → Int32) (s0 lo hi : Nat → Int64) (sl sf mv : Nat → Int32) (hs : schI fo sl sf) (kpl khd kch kdp kpr kbb kby kbs kfe ked keb kwho khe : Nat → Int32) :
    ∃ (ans st₉ : Int32) (fo₉ sp₉ w0₉ h0₉ n0₉ : Int32) (wl0₉ t0₉ : Int64) (k0₉ p0₉ l0₉ g0₉ a0₉ wd0₉ hg0₉ : Nat → Int32) (s0₉ lo₉ hi₉ : Nat → Int64) (sl₉ sf₉ mv₉ : Nat → Int32) (sn₉ ed₉ : Int32) (kpl₉ khd₉ kch₉ kdp₉ kpr₉ kbb₉ kby₉ kbs₉ kfe₉ ked₉ keb₉ kwho₉ khe₉ : Nat → Int32), f_BargeBasin_reach_search11 st cw chh cn cwl ct ck cp cl cg ca cwd chg cs fo sp w0 h0 n0 wl0 t0 k0 p0 l0 g0 a0 wd0 hg0 s0 lo hi sl sf mv = some (ans, st₉, fo₉, sp₉, w0₉, h0₉, n0₉, wl0₉, t0₉, k0₉, p0₉, l0₉, g0₉, a0₉, wd0₉, hg0₉, s0₉, lo₉, hi₉, sl₉, sf₉, mv₉) ∧ f_BargeBasinModel_reach st2 th khas kw kh kn sn ed kwl kk kat ks ky kpl khd kch kdp kpr kbb kby kbs kfe ked keb kwho khe = some (ans, st₉, 0, sn₉, ed₉, kpl₉, khd₉, kch₉, kdp₉, kpr₉, kbb₉, kby₉, kbs₉, kfe₉, ked₉, keb₉, kwho₉, khe₉) ∧ schI fo₉ sl₉ sf₉ := by
  obtain ⟨r1, r2, r3, r4, r5, r6, r7, r8⟩ := hr
  subst r1; subst r2; subst r3; subst r4
  obtain ⟨a, s, fo₉, sp₉, w0₉, h0₉, n0₉, wl0₉, t0₉, k0₉, p0₉, l0₉, g0₉, a0₉, wd0₉, hg0₉, s0₉, lo₉, hi₉, sl₉, sf₉, mv₉, e1, sc, f1⟩ := s_reach_11 hX.1 hX.2.1 hc hs sp w0 h0 n0 wl0 t0 k0 p0 l0 g0 a0 wd0 hg0 s0 lo hi mv st
  obtain ⟨a₉, s₉, sn₉, ed₉, kpl₉, khd₉, kch₉, kdp₉, kpr₉, kbb₉, kby₉, kbs₉, kfe₉, ked₉, keb₉, kwho₉, khe₉, e2, f2⟩ := m_reach hX.1 hX.2.1 r6 r5 r7 st2 th sn ed kpl khd kch kdp kpr kbb kby kbs kfe ked keb kwho khe
  obtain ⟨ea, es⟩ := reach_u f1 f2
  subst ea; subst es
  exact ⟨a, s, fo₉, sp₉, w0₉, h0₉, n0₉, wl0₉, t0₉, k0₉, p0₉, l0₉, g0₉, a0₉, wd0₉, hg0₉, s0₉, lo₉, hi₉, sl₉, sf₉, mv₉, sn₉, ed₉, kpl₉, khd₉, kch₉, kdp₉, kpr₉, kbb₉, kby₉, kbs₉, kfe₉, ked₉, keb₉, kwho₉, khe₉, e1, e2, sc⟩
theorem eq_all_11 {X : BP} {cw chh cn : Int32} {cwl ct : Int64} {ck cp cl cg ca cwd chg : Nat → Int32} {cs : Nat → Int64} {khas kw kh kn : Int32} {kwl kk kat ks ky kg : Nat → Int32} (hX : okX X) (hc : chX X.1 X.2 cw chh cn cwl ct ck cp cl cg ca cwd chg cs) (hr : rfX X.1 X.2 khas kw kh kn kwl kk kat ks ky kg) (st st2 th sn ed : Int32) (fo qd sp w0 h0 n0 : Int32) (wl0 t0 : Int64) (k0 p0 l0 g0 a0 wd0 hg0 : Nat → Int32) (s0 lo hi : Nat → Int64) (sl sf mv di qu : Nat → Int32) (wy : Nat → Int64) (hs : schI fo sl sf) (kpl khd kch kdp kpr kbb kby kbs kfe ked keb : Nat → Int32) (kc : Nat → Int64) (kwho khe : Nat → Int32) :
    ∃ (ans : Int64) (st₉ : Int32) (fo₉ qd₉ sp₉ w0₉ h0₉ n0₉ : Int32) (wl0₉ t0₉ : Int64) (k0₉ p0₉ l0₉ g0₉ a0₉ wd0₉ hg0₉ : Nat → Int32) (s0₉ lo₉ hi₉ : Nat → Int64) (sl₉ sf₉ mv₉ di₉ qu₉ : Nat → Int32) (wy₉ : Nat → Int64) (sn₉ ed₉ : Int32) (kpl₉ khd₉ kch₉ kdp₉ kpr₉ kbb₉ kby₉ kbs₉ kfe₉ ked₉ keb₉ : Nat → Int32) (kc₉ : Nat → Int64) (kwho₉ khe₉ : Nat → Int32), f_BargeBasin_all_search11 st cw chh cn cwl ct ck cp cl cg ca cwd chg cs fo qd sp w0 h0 n0 wl0 t0 k0 p0 l0 g0 a0 wd0 hg0 s0 lo hi sl sf mv di qu wy = some (ans, st₉, fo₉, qd₉, sp₉, w0₉, h0₉, n0₉, wl0₉, t0₉, k0₉, p0₉, l0₉, g0₉, a0₉, wd0₉, hg0₉, s0₉, lo₉, hi₉, sl₉, sf₉, mv₉, di₉, qu₉, wy₉) ∧ f_BargeBasinModel_all st2 th khas kw kh kn sn ed kwl kk kat ks ky kg kpl khd kch kdp kpr kbb kby kbs kfe ked keb kc kwho khe = some (ans, st₉, 0, sn₉, ed₉, kpl₉, khd₉, kch₉, kdp₉, kpr₉, kbb₉, kby₉, kbs₉, kfe₉, ked₉, keb₉, kc₉, kwho₉, khe₉) ∧ schI fo₉ sl₉ sf₉ := by
  obtain ⟨r1, r2, r3, r4, r5, r6, r7, r8⟩ := hr
  subst r1; subst r2; subst r3; subst r4
  obtain ⟨a, s, fo₉, qd₉, sp₉, w0₉, h0₉, n0₉, wl0₉, t0₉, k0₉, p0₉, l0₉, g0₉, a0₉, wd0₉, hg0₉, s0₉, lo₉, hi₉, sl₉, sf₉, mv₉, di₉, qu₉, wy₉, e1, sc, f1⟩ := s_all_11 hX.1 hX.2.1 hc hs qd sp w0 h0 n0 wl0 t0 k0 p0 l0 g0 a0 wd0 hg0 s0 lo hi mv di qu wy st
  obtain ⟨a₉, s₉, sn₉, ed₉, kpl₉, khd₉, kch₉, kdp₉, kpr₉, kbb₉, kby₉, kbs₉, kfe₉, ked₉, keb₉, kc₉, kwho₉, khe₉, e2, f2⟩ := m_all hX.1 hX.2.1 r6 r5 r7 r8 st2 th sn ed kpl khd kch kdp kpr kbb kby kbs kfe ked keb kc kwho khe
  obtain ⟨ea, es⟩ := all_u f1 f2
  subst ea; subst es
  exact ⟨a, s, fo₉, qd₉, sp₉, w0₉, h0₉, n0₉, wl0₉, t0₉, k0₉, p0₉, l0₉, g0₉, a0₉, wd0₉, hg0₉, s0₉, lo₉, hi₉, sl₉, sf₉, mv₉, di₉, qu₉, wy₉, sn₉, ed₉, kpl₉, khd₉, kch₉, kdp₉, kpr₉, kbb₉, kby₉, kbs₉, kfe₉, ked₉, keb₉, kc₉, kwho₉, khe₉, e1, e2, sc⟩
theorem eq_must_11 {b : Nat} {X : BP} {cw chh cn : Int32} {cwl ct : Int64} {ck cp cl cg ca cwd chg : Nat → Int32} {cs : Nat → Int64} {khas kw kh kn : Int32} {kwl kk kat ks ky kg : Nat → Int32} (hX : okX X) (hc : chX X.1 X.2 cw chh cn cwl ct ck cp cl cg ca cwd chg cs) (hr : rfX X.1 X.2 khas kw kh kn kwl kk kat ks ky kg) (hb : b < bn X.1) (st st2 th sn ed : Int32) (fo qd sp w0 h0 n0 : Int32) (wl0 t0 : Int64) (k0 p0 l0 g0 a0 wd0 hg0 : Nat → Int32) (s0 lo hi : Nat → Int64) (sl sf mv di qu : Nat → Int32) (wy : Nat → Int64) (hs : schI fo sl sf) (kpl khd kch kdp kpr kbb kby kbs kfe ked keb : Nat → Int32) (kc : Nat → Int64) (kwho khe : Nat → Int32) :
    ∃ (ans : Int32) (st₉ : Int32) (fo₉ qd₉ sp₉ w0₉ h0₉ n0₉ : Int32) (wl0₉ t0₉ : Int64) (k0₉ p0₉ l0₉ g0₉ a0₉ wd0₉ hg0₉ : Nat → Int32) (s0₉ lo₉ hi₉ : Nat → Int64) (sl₉ sf₉ mv₉ di₉ qu₉ : Nat → Int32) (wy₉ : Nat → Int64) (sn₉ ed₉ : Int32) (kpl₉ khd₉ kch₉ kdp₉ kpr₉ kbb₉ kby₉ kbs₉ kfe₉ ked₉ keb₉ : Nat → Int32) (kc₉ : Nat → Int64) (kwho₉ khe₉ : Nat → Int32), f_BargeBasin_must_search11 (nI b) st cw chh cn cwl ct ck cp cl cg ca cwd chg cs fo qd sp w0 h0 n0 wl0 t0 k0 p0 l0 g0 a0 wd0 hg0 s0 lo hi sl sf mv di qu wy = some (ans, st₉, fo₉, qd₉, sp₉, w0₉, h0₉, n0₉, wl0₉, t0₉, k0₉, p0₉, l0₉, g0₉, a0₉, wd0₉, hg0₉, s0₉, lo₉, hi₉, sl₉, sf₉, mv₉, di₉, qu₉, wy₉) ∧ f_BargeBasinModel_must (nI b) st2 th khas kw kh kn sn ed kwl kk kat ks ky kg kpl khd kch kdp kpr kbb kby kbs kfe ked keb kc kwho khe = some (ans, st₉, 0, sn₉, ed₉, kpl₉, khd₉, kch₉, kdp₉, kpr₉, kbb₉, kby₉, kbs₉, kfe₉, ked₉, keb₉, kc₉, kwho₉, khe₉) ∧ schI fo₉ sl₉ sf₉ := by
  obtain ⟨r1, r2, r3, r4, r5, r6, r7, r8⟩ := hr
  subst r1; subst r2; subst r3; subst r4
  obtain ⟨a, s, fo₉, qd₉, sp₉, w0₉, h0₉, n0₉, wl0₉, t0₉, k0₉, p0₉, l0₉, g0₉, a0₉, wd0₉, hg0₉, s0₉, lo₉, hi₉, sl₉, sf₉, mv₉, di₉, qu₉, wy₉, e1, sc, f1⟩ := s_must_11 hX.1 hX.2.1 hc hb hs qd sp w0 h0 n0 wl0 t0 k0 p0 l0 g0 a0 wd0 hg0 s0 lo hi mv di qu wy st
  obtain ⟨a₉, s₉, sn₉, ed₉, kpl₉, khd₉, kch₉, kdp₉, kpr₉, kbb₉, kby₉, kbs₉, kfe₉, ked₉, keb₉, kc₉, kwho₉, khe₉, e2, f2⟩ := m_must hX.1 hX.2.1 r6 r5 r7 r8 hb st2 th sn ed kpl khd kch kdp kpr kbb kby kbs kfe ked keb kc kwho khe
  obtain ⟨ea, es⟩ := must_u f1 f2
  subst ea; subst es
  exact ⟨a, s, fo₉, qd₉, sp₉, w0₉, h0₉, n0₉, wl0₉, t0₉, k0₉, p0₉, l0₉, g0₉, a0₉, wd0₉, hg0₉, s0₉, lo₉, hi₉, sl₉, sf₉, mv₉, di₉, qu₉, wy₉, sn₉, ed₉, kpl₉, khd₉, kch₉, kdp₉, kpr₉, kbb₉, kby₉, kbs₉, kfe₉, ked₉, keb₉, kc₉, kwho₉, khe₉, e1, e2, sc⟩
theorem eq_reach_01 {X : BP} {cw chh cn : Int32} {cwl ct : Int64} {ck cp cl cg ca cwd chg : Nat → Int32} {cs : Nat → Int64} {khas kw kh kn : Int32} {kwl kk kat ks ky kg : Nat → Int32} (hX : okX X) (hc : chX X.1 X.2 cw chh cn cwl ct ck cp cl cg ca cwd chg cs) (hr : rfX X.1 X.2 khas kw kh kn kwl kk kat ks ky kg) (st st2 th sn ed : Int32) (kpl khd kch kdp kpr kbb kby kbs kfe ked keb kwho khe : Nat → Int32) :
    ∃ (ans st₉ : Int32) (fo₉ sp₉ w0₉ h0₉ n0₉ : Int32) (wl0₉ t0₉ : Int64) (k0₉ p0₉ l0₉ g0₉ a0₉ wd0₉ hg0₉ : Nat → Int32) (s0₉ lo₉ hi₉ : Nat → Int64) (sl₉ sf₉ mv₉ : Nat → Int32) (sn₉ ed₉ : Int32) (kpl₉ khd₉ kch₉ kdp₉ kpr₉ kbb₉ kby₉ kbs₉ kfe₉ ked₉ keb₉ kwho₉ khe₉ : Nat → Int32), f_BargeBasin_reach_search01 st cw chh cn cwl ct ck cp cl cg ca cwd chg cs = some (ans, st₉, fo₉, sp₉, w0₉, h0₉, n0₉, wl0₉, t0₉, k0₉, p0₉, l0₉, g0₉, a0₉, wd0₉, hg0₉, s0₉, lo₉, hi₉, sl₉, sf₉, mv₉) ∧ f_BargeBasinModel_reach st2 th khas kw kh kn sn ed kwl kk kat ks ky kpl khd kch kdp kpr kbb kby kbs kfe ked keb kwho khe = some (ans, st₉, 0, sn₉, ed₉, kpl₉, khd₉, kch₉, kdp₉, kpr₉, kbb₉, kby₉, kbs₉, kfe₉, ked₉, keb₉, kwho₉, khe₉) ∧ schI fo₉ sl₉ sf₉ := by
  obtain ⟨r1, r2, r3, r4, r5, r6, r7, r8⟩ := hr
  subst r1; subst r2; subst r3; subst r4
  obtain ⟨a, s, fo₉, sp₉, w0₉, h0₉, n0₉, wl0₉, t0₉, k0₉, p0₉, l0₉, g0₉, a0₉, wd0₉, hg0₉, s0₉, lo₉, hi₉, sl₉, sf₉, mv₉, e1, sc, f1⟩ := s_reach_01 hX.1 hX.2.1 hc st
  obtain ⟨a₉, s₉, sn₉, ed₉, kpl₉, khd₉, kch₉, kdp₉, kpr₉, kbb₉, kby₉, kbs₉, kfe₉, ked₉, keb₉, kwho₉, khe₉, e2, f2⟩ := m_reach hX.1 hX.2.1 r6 r5 r7 st2 th sn ed kpl khd kch kdp kpr kbb kby kbs kfe ked keb kwho khe
  obtain ⟨ea, es⟩ := reach_u f1 f2
  subst ea; subst es
  exact ⟨a, s, fo₉, sp₉, w0₉, h0₉, n0₉, wl0₉, t0₉, k0₉, p0₉, l0₉, g0₉, a0₉, wd0₉, hg0₉, s0₉, lo₉, hi₉, sl₉, sf₉, mv₉, sn₉, ed₉, kpl₉, khd₉, kch₉, kdp₉, kpr₉, kbb₉, kby₉, kbs₉, kfe₉, ked₉, keb₉, kwho₉, khe₉, e1, e2, sc⟩
theorem eq_all_01 {X : BP} {cw chh cn : Int32} {cwl ct : Int64} {ck cp cl cg ca cwd chg : Nat → Int32} {cs : Nat → Int64} {khas kw kh kn : Int32} {kwl kk kat ks ky kg : Nat → Int32} (hX : okX X) (hc : chX X.1 X.2 cw chh cn cwl ct ck cp cl cg ca cwd chg cs) (hr : rfX X.1 X.2 khas kw kh kn kwl kk kat ks ky kg) (st st2 th sn ed : Int32) (kpl khd kch kdp kpr kbb kby kbs kfe ked keb : Nat → Int32) (kc : Nat → Int64) (kwho khe : Nat → Int32) :
    ∃ (ans : Int64) (st₉ : Int32) (fo₉ qd₉ sp₉ w0₉ h0₉ n0₉ : Int32) (wl0₉ t0₉ : Int64) (k0₉ p0₉ l0₉ g0₉ a0₉ wd0₉ hg0₉ : Nat → Int32) (s0₉ lo₉ hi₉ : Nat → Int64) (sl₉ sf₉ mv₉ di₉ qu₉ : Nat → Int32) (wy₉ : Nat → Int64) (sn₉ ed₉ : Int32) (kpl₉ khd₉ kch₉ kdp₉ kpr₉ kbb₉ kby₉ kbs₉ kfe₉ ked₉ keb₉ : Nat → Int32) (kc₉ : Nat → Int64) (kwho₉ khe₉ : Nat → Int32), f_BargeBasin_all_search01 st cw chh cn cwl ct ck cp cl cg ca cwd chg cs = some (ans, st₉, fo₉, qd₉, sp₉, w0₉, h0₉, n0₉, wl0₉, t0₉, k0₉, p0₉, l0₉, g0₉, a0₉, wd0₉, hg0₉, s0₉, lo₉, hi₉, sl₉, sf₉, mv₉, di₉, qu₉, wy₉) ∧ f_BargeBasinModel_all st2 th khas kw kh kn sn ed kwl kk kat ks ky kg kpl khd kch kdp kpr kbb kby kbs kfe ked keb kc kwho khe = some (ans, st₉, 0, sn₉, ed₉, kpl₉, khd₉, kch₉, kdp₉, kpr₉, kbb₉, kby₉, kbs₉, kfe₉, ked₉, keb₉, kc₉, kwho₉, khe₉) ∧ schI fo₉ sl₉ sf₉ := by
  obtain ⟨r1, r2, r3, r4, r5, r6, r7, r8⟩ := hr
  subst r1; subst r2; subst r3; subst r4
  obtain ⟨a, s, fo₉, qd₉, sp₉, w0₉, h0₉, n0₉, wl0₉, t0₉, k0₉, p0₉, l0₉, g0₉, a0₉, wd0₉, hg0₉, s0₉, lo₉, hi₉, sl₉, sf₉, mv₉, di₉, qu₉, wy₉, e1, sc, f1⟩ := s_all_01 hX.1 hX.2.1 hc st
  obtain ⟨a₉, s₉, sn₉, ed₉, kpl₉, khd₉, kch₉, kdp₉, kpr₉, kbb₉, kby₉, kbs₉, kfe₉, ked₉, keb₉, kc₉, kwho₉, khe₉, e2, f2⟩ := m_all hX.1 hX.2.1 r6 r5 r7 r8 st2 th sn ed kpl khd kch kdp kpr kbb kby kbs kfe ked keb kc kwho khe
  obtain ⟨ea, es⟩ := all_u f1 f2
  subst ea; subst es
  exact ⟨a, s, fo₉, qd₉, sp₉, w0₉, h0₉, n0₉, wl0₉, t0₉, k0₉, p0₉, l0₉, g0₉, a0₉, wd0₉, hg0₉, s0₉, lo₉, hi₉, sl₉, sf₉, mv₉, di₉, qu₉, wy₉, sn₉, ed₉, kpl₉, khd₉, kch₉, kdp₉, kpr₉, kbb₉, kby₉, kbs₉, kfe₉, ked₉, keb₉, kc₉, kwho₉, khe₉, e1, e2, sc⟩
theorem eq_must_01 {b : Nat} {X : BP} {cw chh cn : Int32} {cwl ct : Int64} {ck cp cl cg ca cwd chg : Nat → Int32} {cs : Nat → Int64} {khas kw kh kn : Int32} {kwl kk kat ks ky kg : Nat → Int32} (hX : okX X) (hc : chX X.1 X.2 cw chh cn cwl ct ck cp cl cg ca cwd chg cs) (hr : rfX X.1 X.2 khas kw kh kn kwl kk kat ks ky kg) (hb : b < bn X.1) (st st2 th sn ed : Int32) (kpl khd kch kdp kpr kbb kby kbs kfe ked keb : Nat → Int32) (kc : Nat → Int64) (kwho khe : Nat → Int32) :
    ∃ (ans : Int32) (st₉ : Int32) (fo₉ qd₉ sp₉ w0₉ h0₉ n0₉ : Int32) (wl0₉ t0₉ : Int64) (k0₉ p0₉ l0₉ g0₉ a0₉ wd0₉ hg0₉ : Nat → Int32) (s0₉ lo₉ hi₉ : Nat → Int64) (sl₉ sf₉ mv₉ di₉ qu₉ : Nat → Int32) (wy₉ : Nat → Int64) (sn₉ ed₉ : Int32) (kpl₉ khd₉ kch₉ kdp₉ kpr₉ kbb₉ kby₉ kbs₉ kfe₉ ked₉ keb₉ : Nat → Int32) (kc₉ : Nat → Int64) (kwho₉ khe₉ : Nat → Int32), f_BargeBasin_must_search01 (nI b) st cw chh cn cwl ct ck cp cl cg ca cwd chg cs = some (ans, st₉, fo₉, qd₉, sp₉, w0₉, h0₉, n0₉, wl0₉, t0₉, k0₉, p0₉, l0₉, g0₉, a0₉, wd0₉, hg0₉, s0₉, lo₉, hi₉, sl₉, sf₉, mv₉, di₉, qu₉, wy₉) ∧ f_BargeBasinModel_must (nI b) st2 th khas kw kh kn sn ed kwl kk kat ks ky kg kpl khd kch kdp kpr kbb kby kbs kfe ked keb kc kwho khe = some (ans, st₉, 0, sn₉, ed₉, kpl₉, khd₉, kch₉, kdp₉, kpr₉, kbb₉, kby₉, kbs₉, kfe₉, ked₉, keb₉, kc₉, kwho₉, khe₉) ∧ schI fo₉ sl₉ sf₉ := by
  obtain ⟨r1, r2, r3, r4, r5, r6, r7, r8⟩ := hr
  subst r1; subst r2; subst r3; subst r4
  obtain ⟨a, s, fo₉, qd₉, sp₉, w0₉, h0₉, n0₉, wl0₉, t0₉, k0₉, p0₉, l0₉, g0₉, a0₉, wd0₉, hg0₉, s0₉, lo₉, hi₉, sl₉, sf₉, mv₉, di₉, qu₉, wy₉, e1, sc, f1⟩ := s_must_01 hX.1 hX.2.1 hc hb st
  obtain ⟨a₉, s₉, sn₉, ed₉, kpl₉, khd₉, kch₉, kdp₉, kpr₉, kbb₉, kby₉, kbs₉, kfe₉, ked₉, keb₉, kc₉, kwho₉, khe₉, e2, f2⟩ := m_must hX.1 hX.2.1 r6 r5 r7 r8 hb st2 th sn ed kpl khd kch kdp kpr kbb kby kbs kfe ked keb kc kwho khe
  obtain ⟨ea, es⟩ := must_u f1 f2
  subst ea; subst es
  exact ⟨a, s, fo₉, qd₉, sp₉, w0₉, h0₉, n0₉, wl0₉, t0₉, k0₉, p0₉, l0₉, g0₉, a0₉, wd0₉, hg0₉, s0₉, lo₉, hi₉, sl₉, sf₉, mv₉, di₉, qu₉, wy₉, sn₉, ed₉, kpl₉, khd₉, kch₉, kdp₉, kpr₉, kbb₉, kby₉, kbs₉, kfe₉, ked₉, keb₉, kc₉, kwho₉, khe₉, e1, e2, sc⟩
end
section
/-! fewest and fewestSteps of both sides. -/
theorem pl_400 {X : BP} {most : Nat} {a s : Int32} {l : List Nat} (h : okX X) (hp : plX X.1 most X.2 a s (some l)) : ∀ c, c ∈ l → c < 400 := by
  rcases hp with ⟨-, -, -, e⟩ | ⟨-, -, -, -, e⟩ | ⟨-, k, cs, -, g, -, -, -, e⟩
  · cases e
  · cases e
  · cases e; exact gPath_400 h.1 g
theorem eq_fewest_1_11 {X : BP} {cw chh cn : Int32} {cwl ct : Int64} {ck cp cl cg ca cwd chg : Nat → Int32} {cs : Nat → Int64} {khas kw kh kn : Int32} {kwl kk kat ks ky kg : Nat → Int32} {l : List Nat} {psz khp kpm : Int32} {pm pb pw pt : Nat → Int32} (hX : okX X) (hc : chX X.1 X.2 cw chh cn cwl ct ck cp cl cg ca cwd chg cs) (hr : rfX X.1 X.2 khas kw kh kn kwl kk kat ks ky kg) (hp : plR l psz pm khp kpm pb pw pt) (st st2 th sn ed : Int32) (fo qd sp w0 h0 n0 : Int32) (wl0 t0 : Int64) (k0 p0 l0 g0 a0 wd0 hg0 : Nat → Int32) (s0 lo hi : Nat → Int64) (sl sf mv di qu : Nat → Int32) (hs : schI fo sl sf) (kpl khd kch kdp kpr kbb kby kbs kfe ked keb kwho khe : Nat → Int32) :
    ∃ (ans st₉ : Int32) (fo₉ qd₉ sp₉ w0₉ h0₉ n0₉ : Int32) (wl0₉ t0₉ : Int64) (k0₉ p0₉ l0₉ g0₉ a0₉ wd0₉ hg0₉ : Nat → Int32) (s0₉ lo₉ hi₉ : Nat → Int64) (sl₉ sf₉ mv₉ di₉ qu₉ : Nat → Int32) (psz₉ : Int32) (pm₉ : Nat → Int32) (khp₉ kpm₉ sn₉ ed₉ : Int32) (pb₉ pw₉ pt₉ kpl₉ khd₉ kch₉ kdp₉ kpr₉ kbb₉ kby₉ kbs₉ kfe₉ ked₉ keb₉ kwho₉ khe₉ : Nat → Int32) (l₉ : List Nat), f_BargeBasin_fewest_plan11_search11 st cw chh cn cwl ct ck cp cl cg ca cwd chg cs fo qd sp w0 h0 n0 wl0 t0 k0 p0 l0 g0 a0 wd0 hg0 s0 lo hi sl sf mv di qu psz pm = some (ans, st₉, fo₉, qd₉, sp₉, w0₉, h0₉, n0₉, wl0₉, t0₉, k0₉, p0₉, l0₉, g0₉, a0₉, wd0₉, hg0₉, s0₉, lo₉, hi₉, sl₉, sf₉, mv₉, di₉, qu₉, psz₉, pm₉) ∧ f_BargeBasinModel_fewest st2 th khas kw kh kn khp kpm sn ed kwl kk kat ks ky kg pb pw pt kpl khd kch kdp kpr kbb kby kbs kfe ked keb kwho khe = some (ans, st₉, 0, khp₉, kpm₉, sn₉, ed₉, pb₉, pw₉, pt₉, kpl₉, khd₉, kch₉, kdp₉, kpr₉, kbb₉, kby₉, kbs₉, kfe₉, ked₉, keb₉, kwho₉, khe₉) ∧ schI fo₉ sl₉ sf₉ ∧ plR l₉ psz₉ pm₉ khp₉ kpm₉ pb₉ pw₉ pt₉ := by
  obtain ⟨r1, r2, r3, r4, r5, r6, r7, r8⟩ := hr
  subst r1; subst r2; subst r3; subst r4
  obtain ⟨a, s, fo₉, qd₉, sp₉, w0₉, h0₉, n0₉, wl0₉, t0₉, k0₉, p0₉, l0₉, g0₉, a0₉, wd0₉, hg0₉, s0₉, lo₉, hi₉, sl₉, sf₉, mv₉, di₉, qu₉, psz₉, pm₉, new, e1, sc, f1, hN, hS⟩ := s_fewest_11_11 hX.1 hX.2.1 hc hs qd sp w0 h0 n0 wl0 t0 k0 p0 l0 g0 a0 wd0 hg0 s0 lo hi mv di qu st psz pm
  obtain ⟨a₉, s₉, khp₉, kpm₉, sn₉, ed₉, pb₉, pw₉, pt₉, kpl₉, khd₉, kch₉, kdp₉, kpr₉, kbb₉, kby₉, kbs₉, kfe₉, ked₉, keb₉, kwho₉, khe₉, new2, e2, f2, g2, g3⟩ := m_fewest hX.1 hX.2.1 r6 r5 r7 r8 st2 th khp kpm sn ed pb pw pt kpl khd kch kdp kpr kbb kby kbs kfe ked keb kwho khe
  obtain ⟨ea, es, en⟩ := pl_u f1 f2
  subst ea; subst es; subst en
  cases new with
  | none =>
    obtain ⟨z1, z2⟩ := hN rfl
    obtain ⟨y1, y2, y3, y4, y5⟩ := g2 rfl
    subst z1; subst z2; subst y1; subst y2; subst y3; subst y4; subst y5
    exact ⟨a, s, fo₉, qd₉, sp₉, w0₉, h0₉, n0₉, wl0₉, t0₉, k0₉, p0₉, l0₉, g0₉, a0₉, wd0₉, hg0₉, s0₉, lo₉, hi₉, sl₉, sf₉, mv₉, di₉, qu₉, _, _, _, _, sn₉, ed₉, _, _, _, kpl₉, khd₉, kch₉, kdp₉, kpr₉, kbb₉, kby₉, kbs₉, kfe₉, ked₉, keb₉, kwho₉, khe₉, l, e1, e2, sc, hp⟩
  | some l₉ =>
    obtain ⟨z1, z2, z3⟩ := hS l₉ rfl
    obtain ⟨y1, y2, y3, y4⟩ := g3 l₉ rfl
    exact ⟨a, s, fo₉, qd₉, sp₉, w0₉, h0₉, n0₉, wl0₉, t0₉, k0₉, p0₉, l0₉, g0₉, a0₉, wd0₉, hg0₉, s0₉, lo₉, hi₉, sl₉, sf₉, mv₉, di₉, qu₉, _, _, _, _, sn₉, ed₉, _, _, _, kpl₉, khd₉, kch₉, kdp₉, kpr₉, kbb₉, kby₉, kbs₉, kfe₉, ked₉, keb₉, kwho₉, khe₉, l₉, e1, e2, sc, z3, pl_400 hX f1, z1, z2, y1, y2, y4⟩
theorem eq_fewest_0_11 {X : BP} {cw chh cn : Int32} {cwl ct : Int64} {ck cp cl cg ca cwd chg : Nat → Int32} {cs : Nat → Int64} {khas kw kh kn : Int32} {kwl kk kat ks ky kg : Nat → Int32} {khp kpm : Int32} {pb pw pt : Nat → Int32} (hX : okX X) (hc : chX X.1 X.2 cw chh cn cwl ct ck cp cl cg ca cwd chg cs) (hr : rfX X.1 X.2 khas kw kh kn kwl kk kat ks ky kg) (st st2 th sn ed : Int32) (fo qd sp w0 h0 n0 : Int32) (wl0 t0 : Int64) (k0 p0 l0 g0 a0 wd0 hg0 : Nat → Int32) (s0 lo hi : Nat → Int64) (sl sf mv di qu : Nat → Int32) (hs : schI fo sl sf) (kpl khd kch kdp kpr kbb kby kbs kfe ked keb kwho khe : Nat → Int32) :
    (∃ (ans st₉ : Int32) (fo₉ qd₉ sp₉ w0₉ h0₉ n0₉ : Int32) (wl0₉ t0₉ : Int64) (k0₉ p0₉ l0₉ g0₉ a0₉ wd0₉ hg0₉ : Nat → Int32) (s0₉ lo₉ hi₉ : Nat → Int64) (sl₉ sf₉ mv₉ di₉ qu₉ : Nat → Int32) (sn₉ ed₉ : Int32) (kpl₉ khd₉ kch₉ kdp₉ kpr₉ kbb₉ kby₉ kbs₉ kfe₉ ked₉ keb₉ kwho₉ khe₉ : Nat → Int32), f_BargeBasin_fewest_plan00_search11 st cw chh cn cwl ct ck cp cl cg ca cwd chg cs fo qd sp w0 h0 n0 wl0 t0 k0 p0 l0 g0 a0 wd0 hg0 s0 lo hi sl sf mv di qu = some (ans, st₉, fo₉, qd₉, sp₉, w0₉, h0₉, n0₉, wl0₉, t0₉, k0₉, p0₉, l0₉, g0₉, a0₉, wd0₉, hg0₉, s0₉, lo₉, hi₉, sl₉, sf₉, mv₉, di₉, qu₉) ∧ f_BargeBasinModel_fewest st2 th khas kw kh kn khp kpm sn ed kwl kk kat ks ky kg pb pw pt kpl khd kch kdp kpr kbb kby kbs kfe ked keb kwho khe = some (ans, st₉, 0, khp, kpm, sn₉, ed₉, pb, pw, pt, kpl₉, khd₉, kch₉, kdp₉, kpr₉, kbb₉, kby₉, kbs₉, kfe₉, ked₉, keb₉, kwho₉, khe₉) ∧ schI fo₉ sl₉ sf₉) ∨
    (∃ (ans st₉ : Int32) (fo₉ qd₉ sp₉ w0₉ h0₉ n0₉ : Int32) (wl0₉ t0₉ : Int64) (k0₉ p0₉ l0₉ g0₉ a0₉ wd0₉ hg0₉ : Nat → Int32) (s0₉ lo₉ hi₉ : Nat → Int64) (sl₉ sf₉ mv₉ di₉ qu₉ : Nat → Int32) (psz₉ : Int32) (pm₉ : Nat → Int32) (khp₉ kpm₉ sn₉ ed₉ : Int32) (pb₉ pw₉ pt₉ kpl₉ khd₉ kch₉ kdp₉ kpr₉ kbb₉ kby₉ kbs₉ kfe₉ ked₉ keb₉ kwho₉ khe₉ : Nat → Int32) (l₉ : List Nat), f_BargeBasin_fewest_plan01_search11 st cw chh cn cwl ct ck cp cl cg ca cwd chg cs fo qd sp w0 h0 n0 wl0 t0 k0 p0 l0 g0 a0 wd0 hg0 s0 lo hi sl sf mv di qu = some (ans, st₉, fo₉, qd₉, sp₉, w0₉, h0₉, n0₉, wl0₉, t0₉, k0₉, p0₉, l0₉, g0₉, a0₉, wd0₉, hg0₉, s0₉, lo₉, hi₉, sl₉, sf₉, mv₉, di₉, qu₉, psz₉, pm₉) ∧ f_BargeBasinModel_fewest st2 th khas kw kh kn khp kpm sn ed kwl kk kat ks ky kg pb pw pt kpl khd kch kdp kpr kbb kby kbs kfe ked keb kwho khe = some (ans, st₉, 0, khp₉, kpm₉, sn₉, ed₉, pb₉, pw₉, pt₉, kpl₉, khd₉, kch₉, kdp₉, kpr₉, kbb₉, kby₉, kbs₉, kfe₉, ked₉, keb₉, kwho₉, khe₉) ∧ schI fo₉ sl₉ sf₉ ∧ plR l₉ psz₉ pm₉ khp₉ kpm₉ pb₉ pw₉ pt₉) := by
  obtain ⟨r1, r2, r3, r4, r5, r6, r7, r8⟩ := hr
  subst r1; subst r2; subst r3; subst r4
  obtain ⟨a₉, s₉, khp₉, kpm₉, sn₉, ed₉, pb₉, pw₉, pt₉, kpl₉, khd₉, kch₉, kdp₉, kpr₉, kbb₉, kby₉, kbs₉, kfe₉, ked₉, keb₉, kwho₉, khe₉, new2, e2, f2, g2, g3⟩ := m_fewest hX.1 hX.2.1 r6 r5 r7 r8 st2 th khp kpm sn ed pb pw pt kpl khd kch kdp kpr kbb kby kbs kfe ked keb kwho khe
  by_cases fd : fnd X.1 7 X.2
  · obtain ⟨a, s, fo₉, qd₉, sp₉, w0₉, h0₉, n0₉, wl0₉, t0₉, k0₉, p0₉, l0₉, g0₉, a0₉, wd0₉, hg0₉, s0₉, lo₉, hi₉, sl₉, sf₉, mv₉, di₉, qu₉, psz₉, pm₉, l₉, e1, sc, f1, z1, z2, z3⟩ := s_fewest_01_11 hX.1 hX.2.1 hc fd hs qd sp w0 h0 n0 wl0 t0 k0 p0 l0 g0 a0 wd0 hg0 s0 lo hi mv di qu st
    obtain ⟨ea, es, en⟩ := pl_u f1 f2
    subst ea; subst es; subst en
    obtain ⟨y1, y2, y3, y4⟩ := g3 l₉ rfl
    exact Or.inr ⟨a, s, fo₉, qd₉, sp₉, w0₉, h0₉, n0₉, wl0₉, t0₉, k0₉, p0₉, l0₉, g0₉, a0₉, wd0₉, hg0₉, s0₉, lo₉, hi₉, sl₉, sf₉, mv₉, di₉, qu₉, _, _, _, _, sn₉, ed₉, _, _, _, kpl₉, khd₉, kch₉, kdp₉, kpr₉, kbb₉, kby₉, kbs₉, kfe₉, ked₉, keb₉, kwho₉, khe₉, l₉, e1, e2, sc, z3, pl_400 hX f1, z1, z2, y1, y2, y4⟩
  · obtain ⟨a, s, fo₉, qd₉, sp₉, w0₉, h0₉, n0₉, wl0₉, t0₉, k0₉, p0₉, l0₉, g0₉, a0₉, wd0₉, hg0₉, s0₉, lo₉, hi₉, sl₉, sf₉, mv₉, di₉, qu₉, e1, sc, f1⟩ := s_fewest_00_11 hX.1 hX.2.1 hc fd hs qd sp w0 h0 n0 wl0 t0 k0 p0 l0 g0 a0 wd0 hg0 s0 lo hi mv di qu st
    obtain ⟨ea, es, en⟩ := pl_u f1 f2
    subst ea; subst es; subst en
    obtain ⟨y1, y2, y3, y4, y5⟩ := g2 rfl
    subst y1; subst y2; subst y3; subst y4; subst y5
    exact Or.inl ⟨a, s, fo₉, qd₉, sp₉, w0₉, h0₉, n0₉, wl0₉, t0₉, k0₉, p0₉, l0₉, g0₉, a0₉, wd0₉, hg0₉, s0₉, lo₉, hi₉, sl₉, sf₉, mv₉, di₉, qu₉, sn₉, ed₉, kpl₉, khd₉, kch₉, kdp₉, kpr₉, kbb₉, kby₉, kbs₉, kfe₉, ked₉, keb₉, kwho₉, khe₉, e1, e2, sc⟩
theorem eq_fewest_1_01 {X : BP} {cw chh cn : Int32} {cwl ct : Int64} {ck cp cl cg ca cwd chg : Nat → Int32} {cs : Nat → Int64} {khas kw kh kn : Int32} {kwl kk kat ks ky kg : Nat → Int32} {l : List Nat} {psz khp kpm : Int32} {pm pb pw pt : Nat → Int32} (hX : okX X) (hc : chX X.1 X.2 cw chh cn cwl ct ck cp cl cg ca cwd chg cs) (hr : rfX X.1 X.2 khas kw kh kn kwl kk kat ks ky kg) (hp : plR l psz pm khp kpm pb pw pt) (st st2 th sn ed : Int32) (kpl khd kch kdp kpr kbb kby kbs kfe ked keb kwho khe : Nat → Int32) :
    ∃ (ans st₉ : Int32) (fo₉ qd₉ sp₉ w0₉ h0₉ n0₉ : Int32) (wl0₉ t0₉ : Int64) (k0₉ p0₉ l0₉ g0₉ a0₉ wd0₉ hg0₉ : Nat → Int32) (s0₉ lo₉ hi₉ : Nat → Int64) (sl₉ sf₉ mv₉ di₉ qu₉ : Nat → Int32) (psz₉ : Int32) (pm₉ : Nat → Int32) (khp₉ kpm₉ sn₉ ed₉ : Int32) (pb₉ pw₉ pt₉ kpl₉ khd₉ kch₉ kdp₉ kpr₉ kbb₉ kby₉ kbs₉ kfe₉ ked₉ keb₉ kwho₉ khe₉ : Nat → Int32) (l₉ : List Nat), f_BargeBasin_fewest_plan11_search01 st cw chh cn cwl ct ck cp cl cg ca cwd chg cs psz pm = some (ans, st₉, psz₉, pm₉, fo₉, qd₉, sp₉, w0₉, h0₉, n0₉, wl0₉, t0₉, k0₉, p0₉, l0₉, g0₉, a0₉, wd0₉, hg0₉, s0₉, lo₉, hi₉, sl₉, sf₉, mv₉, di₉, qu₉) ∧ f_BargeBasinModel_fewest st2 th khas kw kh kn khp kpm sn ed kwl kk kat ks ky kg pb pw pt kpl khd kch kdp kpr kbb kby kbs kfe ked keb kwho khe = some (ans, st₉, 0, khp₉, kpm₉, sn₉, ed₉, pb₉, pw₉, pt₉, kpl₉, khd₉, kch₉, kdp₉, kpr₉, kbb₉, kby₉, kbs₉, kfe₉, ked₉, keb₉, kwho₉, khe₉) ∧ schI fo₉ sl₉ sf₉ ∧ plR l₉ psz₉ pm₉ khp₉ kpm₉ pb₉ pw₉ pt₉ := by
  obtain ⟨r1, r2, r3, r4, r5, r6, r7, r8⟩ := hr
  subst r1; subst r2; subst r3; subst r4
  obtain ⟨a, s, fo₉, qd₉, sp₉, w0₉, h0₉, n0₉, wl0₉, t0₉, k0₉, p0₉, l0₉, g0₉, a0₉, wd0₉, hg0₉, s0₉, lo₉, hi₉, sl₉, sf₉, mv₉, di₉, qu₉, psz₉, pm₉, new, e1, sc, f1, hN, hS⟩ := s_fewest_11_01 hX.1 hX.2.1 hc st psz pm
  obtain ⟨a₉, s₉, khp₉, kpm₉, sn₉, ed₉, pb₉, pw₉, pt₉, kpl₉, khd₉, kch₉, kdp₉, kpr₉, kbb₉, kby₉, kbs₉, kfe₉, ked₉, keb₉, kwho₉, khe₉, new2, e2, f2, g2, g3⟩ := m_fewest hX.1 hX.2.1 r6 r5 r7 r8 st2 th khp kpm sn ed pb pw pt kpl khd kch kdp kpr kbb kby kbs kfe ked keb kwho khe
  obtain ⟨ea, es, en⟩ := pl_u f1 f2
  subst ea; subst es; subst en
  cases new with
  | none =>
    obtain ⟨z1, z2⟩ := hN rfl
    obtain ⟨y1, y2, y3, y4, y5⟩ := g2 rfl
    subst z1; subst z2; subst y1; subst y2; subst y3; subst y4; subst y5
    exact ⟨a, s, fo₉, qd₉, sp₉, w0₉, h0₉, n0₉, wl0₉, t0₉, k0₉, p0₉, l0₉, g0₉, a0₉, wd0₉, hg0₉, s0₉, lo₉, hi₉, sl₉, sf₉, mv₉, di₉, qu₉, _, _, _, _, sn₉, ed₉, _, _, _, kpl₉, khd₉, kch₉, kdp₉, kpr₉, kbb₉, kby₉, kbs₉, kfe₉, ked₉, keb₉, kwho₉, khe₉, l, e1, e2, sc, hp⟩
  | some l₉ =>
    obtain ⟨z1, z2, z3⟩ := hS l₉ rfl
    obtain ⟨y1, y2, y3, y4⟩ := g3 l₉ rfl
    exact ⟨a, s, fo₉, qd₉, sp₉, w0₉, h0₉, n0₉, wl0₉, t0₉, k0₉, p0₉, l0₉, g0₉, a0₉, wd0₉, hg0₉, s0₉, lo₉, hi₉, sl₉, sf₉, mv₉, di₉, qu₉, _, _, _, _, sn₉, ed₉, _, _, _, kpl₉, khd₉, kch₉, kdp₉, kpr₉, kbb₉, kby₉, kbs₉, kfe₉, ked₉, keb₉, kwho₉, khe₉, l₉, e1, e2, sc, z3, pl_400 hX f1, z1, z2, y1, y2, y4⟩
theorem eq_fewest_0_01 {X : BP} {cw chh cn : Int32} {cwl ct : Int64} {ck cp cl cg ca cwd chg : Nat → Int32} {cs : Nat → Int64} {khas kw kh kn : Int32} {kwl kk kat ks ky kg : Nat → Int32} {khp kpm : Int32} {pb pw pt : Nat → Int32} (hX : okX X) (hc : chX X.1 X.2 cw chh cn cwl ct ck cp cl cg ca cwd chg cs) (hr : rfX X.1 X.2 khas kw kh kn kwl kk kat ks ky kg) (st st2 th sn ed : Int32) (kpl khd kch kdp kpr kbb kby kbs kfe ked keb kwho khe : Nat → Int32) :
    (∃ (ans st₉ : Int32) (fo₉ qd₉ sp₉ w0₉ h0₉ n0₉ : Int32) (wl0₉ t0₉ : Int64) (k0₉ p0₉ l0₉ g0₉ a0₉ wd0₉ hg0₉ : Nat → Int32) (s0₉ lo₉ hi₉ : Nat → Int64) (sl₉ sf₉ mv₉ di₉ qu₉ : Nat → Int32) (sn₉ ed₉ : Int32) (kpl₉ khd₉ kch₉ kdp₉ kpr₉ kbb₉ kby₉ kbs₉ kfe₉ ked₉ keb₉ kwho₉ khe₉ : Nat → Int32), f_BargeBasin_fewest_plan00_search01 st cw chh cn cwl ct ck cp cl cg ca cwd chg cs = some (ans, st₉, fo₉, qd₉, sp₉, w0₉, h0₉, n0₉, wl0₉, t0₉, k0₉, p0₉, l0₉, g0₉, a0₉, wd0₉, hg0₉, s0₉, lo₉, hi₉, sl₉, sf₉, mv₉, di₉, qu₉) ∧ f_BargeBasinModel_fewest st2 th khas kw kh kn khp kpm sn ed kwl kk kat ks ky kg pb pw pt kpl khd kch kdp kpr kbb kby kbs kfe ked keb kwho khe = some (ans, st₉, 0, khp, kpm, sn₉, ed₉, pb, pw, pt, kpl₉, khd₉, kch₉, kdp₉, kpr₉, kbb₉, kby₉, kbs₉, kfe₉, ked₉, keb₉, kwho₉, khe₉) ∧ schI fo₉ sl₉ sf₉) ∨
    (∃ (ans st₉ : Int32) (fo₉ qd₉ sp₉ w0₉ h0₉ n0₉ : Int32) (wl0₉ t0₉ : Int64) (k0₉ p0₉ l0₉ g0₉ a0₉ wd0₉ hg0₉ : Nat → Int32) (s0₉ lo₉ hi₉ : Nat → Int64) (sl₉ sf₉ mv₉ di₉ qu₉ : Nat → Int32) (psz₉ : Int32) (pm₉ : Nat → Int32) (khp₉ kpm₉ sn₉ ed₉ : Int32) (pb₉ pw₉ pt₉ kpl₉ khd₉ kch₉ kdp₉ kpr₉ kbb₉ kby₉ kbs₉ kfe₉ ked₉ keb₉ kwho₉ khe₉ : Nat → Int32) (l₉ : List Nat), f_BargeBasin_fewest_plan01_search01 st cw chh cn cwl ct ck cp cl cg ca cwd chg cs = some (ans, st₉, fo₉, qd₉, sp₉, w0₉, h0₉, n0₉, wl0₉, t0₉, k0₉, p0₉, l0₉, g0₉, a0₉, wd0₉, hg0₉, s0₉, lo₉, hi₉, sl₉, sf₉, mv₉, di₉, qu₉, psz₉, pm₉) ∧ f_BargeBasinModel_fewest st2 th khas kw kh kn khp kpm sn ed kwl kk kat ks ky kg pb pw pt kpl khd kch kdp kpr kbb kby kbs kfe ked keb kwho khe = some (ans, st₉, 0, khp₉, kpm₉, sn₉, ed₉, pb₉, pw₉, pt₉, kpl₉, khd₉, kch₉, kdp₉, kpr₉, kbb₉, kby₉, kbs₉, kfe₉, ked₉, keb₉, kwho₉, khe₉) ∧ schI fo₉ sl₉ sf₉ ∧ plR l₉ psz₉ pm₉ khp₉ kpm₉ pb₉ pw₉ pt₉) := by
  obtain ⟨r1, r2, r3, r4, r5, r6, r7, r8⟩ := hr
  subst r1; subst r2; subst r3; subst r4
  obtain ⟨a₉, s₉, khp₉, kpm₉, sn₉, ed₉, pb₉, pw₉, pt₉, kpl₉, khd₉, kch₉, kdp₉, kpr₉, kbb₉, kby₉, kbs₉, kfe₉, ked₉, keb₉, kwho₉, khe₉, new2, e2, f2, g2, g3⟩ := m_fewest hX.1 hX.2.1 r6 r5 r7 r8 st2 th khp kpm sn ed pb pw pt kpl khd kch kdp kpr kbb kby kbs kfe ked keb kwho khe
  by_cases fd : fnd X.1 7 X.2
  · obtain ⟨a, s, fo₉, qd₉, sp₉, w0₉, h0₉, n0₉, wl0₉, t0₉, k0₉, p0₉, l0₉, g0₉, a0₉, wd0₉, hg0₉, s0₉, lo₉, hi₉, sl₉, sf₉, mv₉, di₉, qu₉, psz₉, pm₉, l₉, e1, sc, f1, z1, z2, z3⟩ := s_fewest_01_01 hX.1 hX.2.1 hc fd st
    obtain ⟨ea, es, en⟩ := pl_u f1 f2
    subst ea; subst es; subst en
    obtain ⟨y1, y2, y3, y4⟩ := g3 l₉ rfl
    exact Or.inr ⟨a, s, fo₉, qd₉, sp₉, w0₉, h0₉, n0₉, wl0₉, t0₉, k0₉, p0₉, l0₉, g0₉, a0₉, wd0₉, hg0₉, s0₉, lo₉, hi₉, sl₉, sf₉, mv₉, di₉, qu₉, _, _, _, _, sn₉, ed₉, _, _, _, kpl₉, khd₉, kch₉, kdp₉, kpr₉, kbb₉, kby₉, kbs₉, kfe₉, ked₉, keb₉, kwho₉, khe₉, l₉, e1, e2, sc, z3, pl_400 hX f1, z1, z2, y1, y2, y4⟩
  · obtain ⟨a, s, fo₉, qd₉, sp₉, w0₉, h0₉, n0₉, wl0₉, t0₉, k0₉, p0₉, l0₉, g0₉, a0₉, wd0₉, hg0₉, s0₉, lo₉, hi₉, sl₉, sf₉, mv₉, di₉, qu₉, e1, sc, f1⟩ := s_fewest_00_01 hX.1 hX.2.1 hc fd st
    obtain ⟨ea, es, en⟩ := pl_u f1 f2
    subst ea; subst es; subst en
    obtain ⟨y1, y2, y3, y4, y5⟩ := g2 rfl
    subst y1; subst y2; subst y3; subst y4; subst y5
    exact Or.inl ⟨a, s, fo₉, qd₉, sp₉, w0₉, h0₉, n0₉, wl0₉, t0₉, k0₉, p0₉, l0₉, g0₉, a0₉, wd0₉, hg0₉, s0₉, lo₉, hi₉, sl₉, sf₉, mv₉, di₉, qu₉, sn₉, ed₉, kpl₉, khd₉, kch₉, kdp₉, kpr₉, kbb₉, kby₉, kbs₉, kfe₉, ked₉, keb₉, kwho₉, khe₉, e1, e2, sc⟩
theorem eq_fewestSteps_1_11 {X : BP} {cw chh cn : Int32} {cwl ct : Int64} {ck cp cl cg ca cwd chg : Nat → Int32} {cs : Nat → Int64} {khas kw kh kn : Int32} {kwl kk kat ks ky kg : Nat → Int32} {l : List Nat} {psz khp kpm : Int32} {pm pb pw pt : Nat → Int32} (hX : okX X) (hc : chX X.1 X.2 cw chh cn cwl ct ck cp cl cg ca cwd chg cs) (hr : rfX X.1 X.2 khas kw kh kn kwl kk kat ks ky kg) (hp : plR l psz pm khp kpm pb pw pt) (st st2 th sn ed : Int32) (fo qd sp w0 h0 n0 : Int32) (wl0 t0 : Int64) (k0 p0 l0 g0 a0 wd0 hg0 : Nat → Int32) (s0 lo hi : Nat → Int64) (sl sf mv di qu : Nat → Int32) (hs : schI fo sl sf) (kpl khd kch kdp kpr kbb kby kbs kfe ked keb kwho khe : Nat → Int32) :
    ∃ (ans st₉ : Int32) (fo₉ qd₉ sp₉ w0₉ h0₉ n0₉ : Int32) (wl0₉ t0₉ : Int64) (k0₉ p0₉ l0₉ g0₉ a0₉ wd0₉ hg0₉ : Nat → Int32) (s0₉ lo₉ hi₉ : Nat → Int64) (sl₉ sf₉ mv₉ di₉ qu₉ : Nat → Int32) (psz₉ : Int32) (pm₉ : Nat → Int32) (khp₉ kpm₉ sn₉ ed₉ : Int32) (pb₉ pw₉ pt₉ kpl₉ khd₉ kch₉ kdp₉ kpr₉ kbb₉ kby₉ kbs₉ kfe₉ ked₉ keb₉ kwho₉ khe₉ : Nat → Int32) (l₉ : List Nat), f_BargeBasin_fewestSteps_plan11_search11 st cw chh cn cwl ct ck cp cl cg ca cwd chg cs fo qd sp w0 h0 n0 wl0 t0 k0 p0 l0 g0 a0 wd0 hg0 s0 lo hi sl sf mv di qu psz pm = some (ans, st₉, fo₉, qd₉, sp₉, w0₉, h0₉, n0₉, wl0₉, t0₉, k0₉, p0₉, l0₉, g0₉, a0₉, wd0₉, hg0₉, s0₉, lo₉, hi₉, sl₉, sf₉, mv₉, di₉, qu₉, psz₉, pm₉) ∧ f_BargeBasinModel_fewestSteps st2 th khas kw kh kn khp kpm sn ed kwl kk kat ks ky kg pb pw pt kpl khd kch kdp kpr kbb kby kbs kfe ked keb kwho khe = some (ans, st₉, 0, khp₉, kpm₉, sn₉, ed₉, pb₉, pw₉, pt₉, kpl₉, khd₉, kch₉, kdp₉, kpr₉, kbb₉, kby₉, kbs₉, kfe₉, ked₉, keb₉, kwho₉, khe₉) ∧ schI fo₉ sl₉ sf₉ ∧ plR l₉ psz₉ pm₉ khp₉ kpm₉ pb₉ pw₉ pt₉ := by
  obtain ⟨r1, r2, r3, r4, r5, r6, r7, r8⟩ := hr
  subst r1; subst r2; subst r3; subst r4
  obtain ⟨a, s, fo₉, qd₉, sp₉, w0₉, h0₉, n0₉, wl0₉, t0₉, k0₉, p0₉, l0₉, g0₉, a0₉, wd0₉, hg0₉, s0₉, lo₉, hi₉, sl₉, sf₉, mv₉, di₉, qu₉, psz₉, pm₉, new, e1, sc, f1, hN, hS⟩ := s_fewestSteps_11_11 hX.1 hX.2.1 hc hs qd sp w0 h0 n0 wl0 t0 k0 p0 l0 g0 a0 wd0 hg0 s0 lo hi mv di qu st psz pm
  obtain ⟨a₉, s₉, khp₉, kpm₉, sn₉, ed₉, pb₉, pw₉, pt₉, kpl₉, khd₉, kch₉, kdp₉, kpr₉, kbb₉, kby₉, kbs₉, kfe₉, ked₉, keb₉, kwho₉, khe₉, new2, e2, f2, g2, g3⟩ := m_fewestSteps hX.1 hX.2.1 r6 r5 r7 r8 st2 th khp kpm sn ed pb pw pt kpl khd kch kdp kpr kbb kby kbs kfe ked keb kwho khe
  obtain ⟨ea, es, en⟩ := pl_u f1 f2
  subst ea; subst es; subst en
  cases new with
  | none =>
    obtain ⟨z1, z2⟩ := hN rfl
    obtain ⟨y1, y2, y3, y4, y5⟩ := g2 rfl
    subst z1; subst z2; subst y1; subst y2; subst y3; subst y4; subst y5
    exact ⟨a, s, fo₉, qd₉, sp₉, w0₉, h0₉, n0₉, wl0₉, t0₉, k0₉, p0₉, l0₉, g0₉, a0₉, wd0₉, hg0₉, s0₉, lo₉, hi₉, sl₉, sf₉, mv₉, di₉, qu₉, _, _, _, _, sn₉, ed₉, _, _, _, kpl₉, khd₉, kch₉, kdp₉, kpr₉, kbb₉, kby₉, kbs₉, kfe₉, ked₉, keb₉, kwho₉, khe₉, l, e1, e2, sc, hp⟩
  | some l₉ =>
    obtain ⟨z1, z2, z3⟩ := hS l₉ rfl
    obtain ⟨y1, y2, y3, y4⟩ := g3 l₉ rfl
    exact ⟨a, s, fo₉, qd₉, sp₉, w0₉, h0₉, n0₉, wl0₉, t0₉, k0₉, p0₉, l0₉, g0₉, a0₉, wd0₉, hg0₉, s0₉, lo₉, hi₉, sl₉, sf₉, mv₉, di₉, qu₉, _, _, _, _, sn₉, ed₉, _, _, _, kpl₉, khd₉, kch₉, kdp₉, kpr₉, kbb₉, kby₉, kbs₉, kfe₉, ked₉, keb₉, kwho₉, khe₉, l₉, e1, e2, sc, z3, pl_400 hX f1, z1, z2, y1, y2, y4⟩
theorem eq_fewestSteps_0_11 {X : BP} {cw chh cn : Int32} {cwl ct : Int64} {ck cp cl cg ca cwd chg : Nat → Int32} {cs : Nat → Int64} {khas kw kh kn : Int32} {kwl kk kat ks ky kg : Nat → Int32} {khp kpm : Int32} {pb pw pt : Nat → Int32} (hX : okX X) (hc : chX X.1 X.2 cw chh cn cwl ct ck cp cl cg ca cwd chg cs) (hr : rfX X.1 X.2 khas kw kh kn kwl kk kat ks ky kg) (st st2 th sn ed : Int32) (fo qd sp w0 h0 n0 : Int32) (wl0 t0 : Int64) (k0 p0 l0 g0 a0 wd0 hg0 : Nat → Int32) (s0 lo hi : Nat → Int64) (sl sf mv di qu : Nat → Int32) (hs : schI fo sl sf) (kpl khd kch kdp kpr kbb kby kbs kfe ked keb kwho khe : Nat → Int32) :
    (∃ (ans st₉ : Int32) (fo₉ qd₉ sp₉ w0₉ h0₉ n0₉ : Int32) (wl0₉ t0₉ : Int64) (k0₉ p0₉ l0₉ g0₉ a0₉ wd0₉ hg0₉ : Nat → Int32) (s0₉ lo₉ hi₉ : Nat → Int64) (sl₉ sf₉ mv₉ di₉ qu₉ : Nat → Int32) (sn₉ ed₉ : Int32) (kpl₉ khd₉ kch₉ kdp₉ kpr₉ kbb₉ kby₉ kbs₉ kfe₉ ked₉ keb₉ kwho₉ khe₉ : Nat → Int32), f_BargeBasin_fewestSteps_plan00_search11 st cw chh cn cwl ct ck cp cl cg ca cwd chg cs fo qd sp w0 h0 n0 wl0 t0 k0 p0 l0 g0 a0 wd0 hg0 s0 lo hi sl sf mv di qu = some (ans, st₉, fo₉, qd₉, sp₉, w0₉, h0₉, n0₉, wl0₉, t0₉, k0₉, p0₉, l0₉, g0₉, a0₉, wd0₉, hg0₉, s0₉, lo₉, hi₉, sl₉, sf₉, mv₉, di₉, qu₉) ∧ f_BargeBasinModel_fewestSteps st2 th khas kw kh kn khp kpm sn ed kwl kk kat ks ky kg pb pw pt kpl khd kch kdp kpr kbb kby kbs kfe ked keb kwho khe = some (ans, st₉, 0, khp, kpm, sn₉, ed₉, pb, pw, pt, kpl₉, khd₉, kch₉, kdp₉, kpr₉, kbb₉, kby₉, kbs₉, kfe₉, ked₉, keb₉, kwho₉, khe₉) ∧ schI fo₉ sl₉ sf₉) ∨
    (∃ (ans st₉ : Int32) (fo₉ qd₉ sp₉ w0₉ h0₉ n0₉ : Int32) (wl0₉ t0₉ : Int64) (k0₉ p0₉ l0₉ g0₉ a0₉ wd0₉ hg0₉ : Nat → Int32) (s0₉ lo₉ hi₉ : Nat → Int64) (sl₉ sf₉ mv₉ di₉ qu₉ : Nat → Int32) (psz₉ : Int32) (pm₉ : Nat → Int32) (khp₉ kpm₉ sn₉ ed₉ : Int32) (pb₉ pw₉ pt₉ kpl₉ khd₉ kch₉ kdp₉ kpr₉ kbb₉ kby₉ kbs₉ kfe₉ ked₉ keb₉ kwho₉ khe₉ : Nat → Int32) (l₉ : List Nat), f_BargeBasin_fewestSteps_plan01_search11 st cw chh cn cwl ct ck cp cl cg ca cwd chg cs fo qd sp w0 h0 n0 wl0 t0 k0 p0 l0 g0 a0 wd0 hg0 s0 lo hi sl sf mv di qu = some (ans, st₉, fo₉, qd₉, sp₉, w0₉, h0₉, n0₉, wl0₉, t0₉, k0₉, p0₉, l0₉, g0₉, a0₉, wd0₉, hg0₉, s0₉, lo₉, hi₉, sl₉, sf₉, mv₉, di₉, qu₉, psz₉, pm₉) ∧ f_BargeBasinModel_fewestSteps st2 th khas kw kh kn khp kpm sn ed kwl kk kat ks ky kg pb pw pt kpl khd kch kdp kpr kbb kby kbs kfe ked keb kwho khe = some (ans, st₉, 0, khp₉, kpm₉, sn₉, ed₉, pb₉, pw₉, pt₉, kpl₉, khd₉, kch₉, kdp₉, kpr₉, kbb₉, kby₉, kbs₉, kfe₉, ked₉, keb₉, kwho₉, khe₉) ∧ schI fo₉ sl₉ sf₉ ∧ plR l₉ psz₉ pm₉ khp₉ kpm₉ pb₉ pw₉ pt₉) := by
  obtain ⟨r1, r2, r3, r4, r5, r6, r7, r8⟩ := hr
  subst r1; subst r2; subst r3; subst r4
  obtain ⟨a₉, s₉, khp₉, kpm₉, sn₉, ed₉, pb₉, pw₉, pt₉, kpl₉, khd₉, kch₉, kdp₉, kpr₉, kbb₉, kby₉, kbs₉, kfe₉, ked₉, keb₉, kwho₉, khe₉, new2, e2, f2, g2, g3⟩ := m_fewestSteps hX.1 hX.2.1 r6 r5 r7 r8 st2 th khp kpm sn ed pb pw pt kpl khd kch kdp kpr kbb kby kbs kfe ked keb kwho khe
  by_cases fd : fnd X.1 1 X.2
  · obtain ⟨a, s, fo₉, qd₉, sp₉, w0₉, h0₉, n0₉, wl0₉, t0₉, k0₉, p0₉, l0₉, g0₉, a0₉, wd0₉, hg0₉, s0₉, lo₉, hi₉, sl₉, sf₉, mv₉, di₉, qu₉, psz₉, pm₉, l₉, e1, sc, f1, z1, z2, z3⟩ := s_fewestSteps_01_11 hX.1 hX.2.1 hc fd hs qd sp w0 h0 n0 wl0 t0 k0 p0 l0 g0 a0 wd0 hg0 s0 lo hi mv di qu st
    obtain ⟨ea, es, en⟩ := pl_u f1 f2
    subst ea; subst es; subst en
    obtain ⟨y1, y2, y3, y4⟩ := g3 l₉ rfl
    exact Or.inr ⟨a, s, fo₉, qd₉, sp₉, w0₉, h0₉, n0₉, wl0₉, t0₉, k0₉, p0₉, l0₉, g0₉, a0₉, wd0₉, hg0₉, s0₉, lo₉, hi₉, sl₉, sf₉, mv₉, di₉, qu₉, _, _, _, _, sn₉, ed₉, _, _, _, kpl₉, khd₉, kch₉, kdp₉, kpr₉, kbb₉, kby₉, kbs₉, kfe₉, ked₉, keb₉, kwho₉, khe₉, l₉, e1, e2, sc, z3, pl_400 hX f1, z1, z2, y1, y2, y4⟩
  · obtain ⟨a, s, fo₉, qd₉, sp₉, w0₉, h0₉, n0₉, wl0₉, t0₉, k0₉, p0₉, l0₉, g0₉, a0₉, wd0₉, hg0₉, s0₉, lo₉, hi₉, sl₉, sf₉, mv₉, di₉, qu₉, e1, sc, f1⟩ := s_fewestSteps_00_11 hX.1 hX.2.1 hc fd hs qd sp w0 h0 n0 wl0 t0 k0 p0 l0 g0 a0 wd0 hg0 s0 lo hi mv di qu st
    obtain ⟨ea, es, en⟩ := pl_u f1 f2
    subst ea; subst es; subst en
    obtain ⟨y1, y2, y3, y4, y5⟩ := g2 rfl
    subst y1; subst y2; subst y3; subst y4; subst y5
    exact Or.inl ⟨a, s, fo₉, qd₉, sp₉, w0₉, h0₉, n0₉, wl0₉, t0₉, k0₉, p0₉, l0₉, g0₉, a0₉, wd0₉, hg0₉, s0₉, lo₉, hi₉, sl₉, sf₉, mv₉, di₉, qu₉, sn₉, ed₉, kpl₉, khd₉, kch₉, kdp₉, kpr₉, kbb₉, kby₉, kbs₉, kfe₉, ked₉, keb₉, kwho₉, khe₉, e1, e2, sc⟩
theorem eq_fewestSteps_1_01 {X : BP} {cw chh cn : Int32} {cwl ct : Int64} {ck cp cl cg ca cwd chg : Nat → Int32} {cs : Nat → Int64} {khas kw kh kn : Int32} {kwl kk kat ks ky kg : Nat → Int32} {l : List Nat} {psz khp kpm : Int32} {pm pb pw pt : Nat → Int32} (hX : okX X) (hc : chX X.1 X.2 cw chh cn cwl ct ck cp cl cg ca cwd chg cs) (hr : rfX X.1 X.2 khas kw kh kn kwl kk kat ks ky kg) (hp : plR l psz pm khp kpm pb pw pt) (st st2 th sn ed : Int32) (kpl khd kch kdp kpr kbb kby kbs kfe ked keb kwho khe : Nat → Int32) :
    ∃ (ans st₉ : Int32) (fo₉ qd₉ sp₉ w0₉ h0₉ n0₉ : Int32) (wl0₉ t0₉ : Int64) (k0₉ p0₉ l0₉ g0₉ a0₉ wd0₉ hg0₉ : Nat → Int32) (s0₉ lo₉ hi₉ : Nat → Int64) (sl₉ sf₉ mv₉ di₉ qu₉ : Nat → Int32) (psz₉ : Int32) (pm₉ : Nat → Int32) (khp₉ kpm₉ sn₉ ed₉ : Int32) (pb₉ pw₉ pt₉ kpl₉ khd₉ kch₉ kdp₉ kpr₉ kbb₉ kby₉ kbs₉ kfe₉ ked₉ keb₉ kwho₉ khe₉ : Nat → Int32) (l₉ : List Nat), f_BargeBasin_fewestSteps_plan11_search01 st cw chh cn cwl ct ck cp cl cg ca cwd chg cs psz pm = some (ans, st₉, psz₉, pm₉, fo₉, qd₉, sp₉, w0₉, h0₉, n0₉, wl0₉, t0₉, k0₉, p0₉, l0₉, g0₉, a0₉, wd0₉, hg0₉, s0₉, lo₉, hi₉, sl₉, sf₉, mv₉, di₉, qu₉) ∧ f_BargeBasinModel_fewestSteps st2 th khas kw kh kn khp kpm sn ed kwl kk kat ks ky kg pb pw pt kpl khd kch kdp kpr kbb kby kbs kfe ked keb kwho khe = some (ans, st₉, 0, khp₉, kpm₉, sn₉, ed₉, pb₉, pw₉, pt₉, kpl₉, khd₉, kch₉, kdp₉, kpr₉, kbb₉, kby₉, kbs₉, kfe₉, ked₉, keb₉, kwho₉, khe₉) ∧ schI fo₉ sl₉ sf₉ ∧ plR l₉ psz₉ pm₉ khp₉ kpm₉ pb₉ pw₉ pt₉ := by
  obtain ⟨r1, r2, r3, r4, r5, r6, r7, r8⟩ := hr
  subst r1; subst r2; subst r3; subst r4
  obtain ⟨a, s, fo₉, qd₉, sp₉, w0₉, h0₉, n0₉, wl0₉, t0₉, k0₉, p0₉, l0₉, g0₉, a0₉, wd0₉, hg0₉, s0₉, lo₉, hi₉, sl₉, sf₉, mv₉, di₉, qu₉, psz₉, pm₉, new, e1, sc, f1, hN, hS⟩ := s_fewestSteps_11_01 hX.1 hX.2.1 hc st psz pm
  obtain ⟨a₉, s₉, khp₉, kpm₉, sn₉, ed₉, pb₉, pw₉, pt₉, kpl₉, khd₉, kch₉, kdp₉, kpr₉, kbb₉, kby₉, kbs₉, kfe₉, ked₉, keb₉, kwho₉, khe₉, new2, e2, f2, g2, g3⟩ := m_fewestSteps hX.1 hX.2.1 r6 r5 r7 r8 st2 th khp kpm sn ed pb pw pt kpl khd kch kdp kpr kbb kby kbs kfe ked keb kwho khe
  obtain ⟨ea, es, en⟩ := pl_u f1 f2
  subst ea; subst es; subst en
  cases new with
  | none =>
    obtain ⟨z1, z2⟩ := hN rfl
    obtain ⟨y1, y2, y3, y4, y5⟩ := g2 rfl
    subst z1; subst z2; subst y1; subst y2; subst y3; subst y4; subst y5
    exact ⟨a, s, fo₉, qd₉, sp₉, w0₉, h0₉, n0₉, wl0₉, t0₉, k0₉, p0₉, l0₉, g0₉, a0₉, wd0₉, hg0₉, s0₉, lo₉, hi₉, sl₉, sf₉, mv₉, di₉, qu₉, _, _, _, _, sn₉, ed₉, _, _, _, kpl₉, khd₉, kch₉, kdp₉, kpr₉, kbb₉, kby₉, kbs₉, kfe₉, ked₉, keb₉, kwho₉, khe₉, l, e1, e2, sc, hp⟩
  | some l₉ =>
    obtain ⟨z1, z2, z3⟩ := hS l₉ rfl
    obtain ⟨y1, y2, y3, y4⟩ := g3 l₉ rfl
    exact ⟨a, s, fo₉, qd₉, sp₉, w0₉, h0₉, n0₉, wl0₉, t0₉, k0₉, p0₉, l0₉, g0₉, a0₉, wd0₉, hg0₉, s0₉, lo₉, hi₉, sl₉, sf₉, mv₉, di₉, qu₉, _, _, _, _, sn₉, ed₉, _, _, _, kpl₉, khd₉, kch₉, kdp₉, kpr₉, kbb₉, kby₉, kbs₉, kfe₉, ked₉, keb₉, kwho₉, khe₉, l₉, e1, e2, sc, z3, pl_400 hX f1, z1, z2, y1, y2, y4⟩
theorem eq_fewestSteps_0_01 {X : BP} {cw chh cn : Int32} {cwl ct : Int64} {ck cp cl cg ca cwd chg : Nat → Int32} {cs : Nat → Int64} {khas kw kh kn : Int32} {kwl kk kat ks ky kg : Nat → Int32} {khp kpm : Int32} {pb pw pt : Nat → Int32} (hX : okX X) (hc : chX X.1 X.2 cw chh cn cwl ct ck cp cl cg ca cwd chg cs) (hr : rfX X.1 X.2 khas kw kh kn kwl kk kat ks ky kg) (st st2 th sn ed : Int32) (kpl khd kch kdp kpr kbb kby kbs kfe ked keb kwho khe : Nat → Int32) :
    (∃ (ans st₉ : Int32) (fo₉ qd₉ sp₉ w0₉ h0₉ n0₉ : Int32) (wl0₉ t0₉ : Int64) (k0₉ p0₉ l0₉ g0₉ a0₉ wd0₉ hg0₉ : Nat → Int32) (s0₉ lo₉ hi₉ : Nat → Int64) (sl₉ sf₉ mv₉ di₉ qu₉ : Nat → Int32) (sn₉ ed₉ : Int32) (kpl₉ khd₉ kch₉ kdp₉ kpr₉ kbb₉ kby₉ kbs₉ kfe₉ ked₉ keb₉ kwho₉ khe₉ : Nat → Int32), f_BargeBasin_fewestSteps_plan00_search01 st cw chh cn cwl ct ck cp cl cg ca cwd chg cs = some (ans, st₉, fo₉, qd₉, sp₉, w0₉, h0₉, n0₉, wl0₉, t0₉, k0₉, p0₉, l0₉, g0₉, a0₉, wd0₉, hg0₉, s0₉, lo₉, hi₉, sl₉, sf₉, mv₉, di₉, qu₉) ∧ f_BargeBasinModel_fewestSteps st2 th khas kw kh kn khp kpm sn ed kwl kk kat ks ky kg pb pw pt kpl khd kch kdp kpr kbb kby kbs kfe ked keb kwho khe = some (ans, st₉, 0, khp, kpm, sn₉, ed₉, pb, pw, pt, kpl₉, khd₉, kch₉, kdp₉, kpr₉, kbb₉, kby₉, kbs₉, kfe₉, ked₉, keb₉, kwho₉, khe₉) ∧ schI fo₉ sl₉ sf₉) ∨
    (∃ (ans st₉ : Int32) (fo₉ qd₉ sp₉ w0₉ h0₉ n0₉ : Int32) (wl0₉ t0₉ : Int64) (k0₉ p0₉ l0₉ g0₉ a0₉ wd0₉ hg0₉ : Nat → Int32) (s0₉ lo₉ hi₉ : Nat → Int64) (sl₉ sf₉ mv₉ di₉ qu₉ : Nat → Int32) (psz₉ : Int32) (pm₉ : Nat → Int32) (khp₉ kpm₉ sn₉ ed₉ : Int32) (pb₉ pw₉ pt₉ kpl₉ khd₉ kch₉ kdp₉ kpr₉ kbb₉ kby₉ kbs₉ kfe₉ ked₉ keb₉ kwho₉ khe₉ : Nat → Int32) (l₉ : List Nat), f_BargeBasin_fewestSteps_plan01_search01 st cw chh cn cwl ct ck cp cl cg ca cwd chg cs = some (ans, st₉, fo₉, qd₉, sp₉, w0₉, h0₉, n0₉, wl0₉, t0₉, k0₉, p0₉, l0₉, g0₉, a0₉, wd0₉, hg0₉, s0₉, lo₉, hi₉, sl₉, sf₉, mv₉, di₉, qu₉, psz₉, pm₉) ∧ f_BargeBasinModel_fewestSteps st2 th khas kw kh kn khp kpm sn ed kwl kk kat ks ky kg pb pw pt kpl khd kch kdp kpr kbb kby kbs kfe ked keb kwho khe = some (ans, st₉, 0, khp₉, kpm₉, sn₉, ed₉, pb₉, pw₉, pt₉, kpl₉, khd₉, kch₉, kdp₉, kpr₉, kbb₉, kby₉, kbs₉, kfe₉, ked₉, keb₉, kwho₉, khe₉) ∧ schI fo₉ sl₉ sf₉ ∧ plR l₉ psz₉ pm₉ khp₉ kpm₉ pb₉ pw₉ pt₉) := by
  obtain ⟨r1, r2, r3, r4, r5, r6, r7, r8⟩ := hr
  subst r1; subst r2; subst r3; subst r4
  obtain ⟨a₉, s₉, khp₉, kpm₉, sn₉, ed₉, pb₉, pw₉, pt₉, kpl₉, khd₉, kch₉, kdp₉, kpr₉, kbb₉, kby₉, kbs₉, kfe₉, ked₉, keb₉, kwho₉, khe₉, new2, e2, f2, g2, g3⟩ := m_fewestSteps hX.1 hX.2.1 r6 r5 r7 r8 st2 th khp kpm sn ed pb pw pt kpl khd kch kdp kpr kbb kby kbs kfe ked keb kwho khe
  by_cases fd : fnd X.1 1 X.2
  · obtain ⟨a, s, fo₉, qd₉, sp₉, w0₉, h0₉, n0₉, wl0₉, t0₉, k0₉, p0₉, l0₉, g0₉, a0₉, wd0₉, hg0₉, s0₉, lo₉, hi₉, sl₉, sf₉, mv₉, di₉, qu₉, psz₉, pm₉, l₉, e1, sc, f1, z1, z2, z3⟩ := s_fewestSteps_01_01 hX.1 hX.2.1 hc fd st
    obtain ⟨ea, es, en⟩ := pl_u f1 f2
    subst ea; subst es; subst en
    obtain ⟨y1, y2, y3, y4⟩ := g3 l₉ rfl
    exact Or.inr ⟨a, s, fo₉, qd₉, sp₉, w0₉, h0₉, n0₉, wl0₉, t0₉, k0₉, p0₉, l0₉, g0₉, a0₉, wd0₉, hg0₉, s0₉, lo₉, hi₉, sl₉, sf₉, mv₉, di₉, qu₉, _, _, _, _, sn₉, ed₉, _, _, _, kpl₉, khd₉, kch₉, kdp₉, kpr₉, kbb₉, kby₉, kbs₉, kfe₉, ked₉, keb₉, kwho₉, khe₉, l₉, e1, e2, sc, z3, pl_400 hX f1, z1, z2, y1, y2, y4⟩
  · obtain ⟨a, s, fo₉, qd₉, sp₉, w0₉, h0₉, n0₉, wl0₉, t0₉, k0₉, p0₉, l0₉, g0₉, a0₉, wd0₉, hg0₉, s0₉, lo₉, hi₉, sl₉, sf₉, mv₉, di₉, qu₉, e1, sc, f1⟩ := s_fewestSteps_00_01 hX.1 hX.2.1 hc fd st
    obtain ⟨ea, es, en⟩ := pl_u f1 f2
    subst ea; subst es; subst en
    obtain ⟨y1, y2, y3, y4, y5⟩ := g2 rfl
    subst y1; subst y2; subst y3; subst y4; subst y5
    exact Or.inl ⟨a, s, fo₉, qd₉, sp₉, w0₉, h0₉, n0₉, wl0₉, t0₉, k0₉, p0₉, l0₉, g0₉, a0₉, wd0₉, hg0₉, s0₉, lo₉, hi₉, sl₉, sf₉, mv₉, di₉, qu₉, sn₉, ed₉, kpl₉, khd₉, kch₉, kdp₉, kpr₉, kbb₉, kby₉, kbs₉, kfe₉, ked₉, keb₉, kwho₉, khe₉, e1, e2, sc⟩
end
