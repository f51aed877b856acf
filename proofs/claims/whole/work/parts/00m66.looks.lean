/-! looksAtAll of the reference: its loops. -/
theorem room_two {B : Bas} {P : Nat → Nat} {b : Nat} {bk : Bool} (h : basOk B) (hs : stOk B P) (hb : b < bn B) : room B P b 1 bk + room B P b 3 bk ≤ 7 ∧ room B P b 0 bk + room B P b 2 bk ≤ 7 := by
  have x1 := (room_xy (bk := bk) h hs hb (show 1 < 4 by decide) (Nat.le_refl _)).1
  have x3 := (room_xy (bk := bk) h hs hb (show 3 < 4 by decide) (Nat.le_refl _)).1
  have y0 := (room_xy (bk := bk) h hs hb (show 0 < 4 by decide) (Nat.le_refl _)).2
  have y2 := (room_xy (bk := bk) h hs hb (show 2 < 4 by decide) (Nat.le_refl _)).2
  have s1 := (room_st (bk := bk) h hs hb (show 1 < 4 by decide) (Nat.le_refl _)).1.1 b hb
  have s2 := (room_st (bk := bk) h hs hb (show 2 < 4 by decide) (Nat.le_refl _)).1.1 b hb
  rw [updN_s] at s1 s2
  obtain ⟨a1, a2, a3, a4, a5, a6, a7, a8⟩ := basOk_wh h hb
  have w8 := h.2.1
  have h8 := h.2.2.2.1
  simp only [dxI, dyI] at x1 x3 y0 y2
  simp at x1 x3 y0 y2
  omega
theorem flat_len {α : Type} {l : List Nat} {f : Nat → List α} {m : Nat} (h : ∀ x, x ∈ l → (f x).length ≤ m) : (l.flatMap f).length ≤ m * l.length := by
  induction l with
  | nil => simp
  | cons x l ih =>
    rw [List.flatMap_cons, List.length_append, List.length_cons, Nat.mul_succ]
    have h1 := h x List.mem_cons_self
    have h2 := ih (fun y hy => h y (List.mem_cons_of_mem _ hy))
    omega
theorem mvs_168 {B : Bas} {P : Nat → Nat} {most : Nat} {bk : Bool} (h : basOk B) (hs : stOk B P) : (mvs B P most bk).length ≤ 168 := by
  have n12 := h.2.2.2.2.1
  have := flat_len (l := List.range (bn B)) (f := mvB B P most bk) (m := 14) (by
    intro b hb
    rw [List.mem_range] at hb
    obtain ⟨r1, r2⟩ := room_two (bk := bk) h hs hb
    have l : ∀ d, (mvD B P most bk b d).length = min most (room B P b d bk) := by intro d; simp [mvD]
    unfold mvB
    rw [show List.range 4 = [0, 1, 2, 3] from rfl]
    simp only [List.flatMap_cons, List.flatMap_nil, List.length_append, l, List.length_nil]
    omega)
  rw [List.length_range] at this
  show ((List.range (bn B)).flatMap (mvB B P most bk)).length ≤ 168
  omega
theorem prs_app {s : Nat} {x y : List Nat} : prs s (x ++ y) = prs s x ++ prs s y := by unfold prs; rw [List.map_append]
theorem prs_len {s : Nat} {x : List Nat} : (prs s x).length = x.length := by unfold prs; rw [List.length_map]
theorem prs_mem {s : Nat} {x : List Nat} {p : Nat × Nat} (h : p ∈ prs s x) : p.1 = s ∧ p.2 ∈ x := by
  unfold prs at h
  obtain ⟨c, hc, e⟩ := List.mem_map.mp h
  rw [← e]; exact ⟨rfl, hc⟩
theorem mvD_rng {B : Bas} {P : Nat → Nat} {most b d c : Nat} {bk : Bool} (h : c ∈ mvD B P most bk b d) : 32 * b + 8 * d < c ∧ c < 32 * b + 8 * d + 8 := by
  have := room_le (B := B) (P := P) (b := b) (d := d) (bk := bk)
  simp only [mvD, List.mem_map, List.mem_range] at h
  obtain ⟨k, hk, e⟩ := h
  omega
/-- the state within stand s: the codes cs of its moves were tried -/
def inS2 (B : Bas) (P : Nat → Nat) (s : Nat) (L0 : List (Nat → Nat)) (A0 : List (Nat × Nat)) (cs : List Nat) (st ed : Int32) (kpl khd kch kdp kpr kbb kby kbs ked keb kwho kh : Nat → Int32) : Prop :=
  ((cs.map (tgt P)).foldl meetL L0).length ≤ 6000 ∧ st = nI ((cs.map (tgt P)).foldl meetL L0).length ∧ ed = nI (A0 ++ prs s cs).length ∧ xS B ((cs.map (tgt P)).foldl meetL L0) (A0 ++ prs s cs) kpl khd kch kdp kpr kbb kby kbs ked keb ∧ rfO B P kwho ∧ chP B P kh
theorem fold_more {P : Nat → Nat} {L0 : List (Nat → Nat)} {xs ys : List Nat} (h : 6000 < ((xs.map (tgt P)).foldl meetL L0).length) : 6000 < (((xs ++ ys).map (tgt P)).foldl meetL L0).length := by
  rw [List.map_append, List.foldl_append]
  have := foldL_len (ys.map (tgt P)) ((xs.map (tgt P)).foldl meetL L0)
  omega
theorem m_lkL106 {B : Bas} {most s b : Nat} {P : Nat → Nat} {L0 : List (Nat → Nat)} {A0 : List (Nat × Nat)} {kwl kk ks ky : Nat → Int32} (h : basOk B) (hr : rfB B kk ks ky) (hwl : rfW B kwl) (hb : b < bn B) (hP : stC B P) (hm : most ≤ 7) (hs : s < L0.length) (hg : gt L0 s = P) (hA0 : ∀ p, p ∈ A0 → p.1 < s) :
    ∀ (r d n : Nat) (cs : List Nat) (st ed : Int32) (kpl khd kch kdp kpr kbb kby kbs ked keb kwho kh : Nat → Int32), d + r = 4 → r < n → (∀ c, c ∈ cs → c < 32 * b + 8 * d + 1) → A0.length + cs.length + ((List.range' d r).flatMap (mvD B P most false b)).length ≤ 1010000 → inS2 B P s L0 A0 cs st ed kpl khd kch kdp kpr kbb kby kbs ked keb kwho kh →
      ∃ x, f_BargeBasinModel_looksAtAll_L106 (nI most) (nI s) (nI b) (nI (bw B)) (nI (bh B)) (nI (bn B)) kwl kk ks ky n (nI d) st ed kpl khd kch kdp kpr kbb kby kbs ked keb kwho kh = some x ∧
        ((∃ st' ed' kpl' khd' kch' kdp' kpr' kbb' kby' kbs' ked' keb' kwho' kh', x = .inr (st', ed', kpl', khd', kch', kdp', kpr', kbb', kby', kbs', ked', keb', kwho', kh') ∧ inS2 B P s L0 A0 (cs ++ (List.range' d r).flatMap (mvD B P most false b)) st' ed' kpl' khd' kch' kdp' kpr' kbb' kby' kbs' ked' keb' kwho' kh') ∨
         ((∃ y, x = .inl y) ∧ 6000 < (((cs ++ (List.range' d r).flatMap (mvD B P most false b)).map (tgt P)).foldl meetL L0).length)) := by
  intro r
  induction r with
  | zero =>
    intro d n cs st ed kpl khd kch kdp kpr kbb kby kbs ked keb kwho kh h1 h2 h3 h4 h5
    obtain ⟨n, rfl⟩ : ∃ z, n = z + 1 := ⟨n - 1, by omega⟩
    refine ⟨.inr (st, ed, kpl, khd, kch, kdp, kpr, kbb, kby, kbs, ked, keb, kwho, kh), ?_, Or.inl ⟨st, ed, kpl, khd, kch, kdp, kpr, kbb, kby, kbs, ked, keb, kwho, kh, rfl, by simpa using h5⟩⟩
    rw [f_BargeBasinModel_looksAtAll_L106, if_pos (show (4 : Int32) ≤ nI d from nI_le (a := 4) (by omega) (by omega))]
  | succ r ih =>
    intro d n cs st ed kpl khd kch kdp kpr kbb kby kbs ked keb kwho kh h1 h2 h3 h4 h5
    obtain ⟨n, rfl⟩ : ∃ z, n = z + 1 := ⟨n - 1, by omega⟩
    obtain ⟨i1, i2, i3, i4, i5, i6⟩ := h5
    subst i2; subst i3
    rw [List.range'_succ, List.flatMap_cons] at h4 ⊢
    rw [List.length_append] at h4
    obtain ⟨l, el⟩ := foldL_pre (cs.map (tgt P)) L0
    obtain ⟨well, st1, ed1, a1, a2, a3, a4, a5, a6, a7, a8, a9, a10, a11, a12, q1, q2, q3, q4, q5⟩ := m_goesOn (s := s) (d := d) h hr hwl hb (by omega) hP hm (by rw [el, List.length_append]; omega) (by rw [el, gt_app hs]; exact hg) i1 (by rw [List.length_append, prs_len]; omega) (by
      intro p hp
      rcases List.mem_append.mp hp with z | z
      · exact Or.inl (hA0 p z)
      · obtain ⟨z1, z2⟩ := prs_mem z
        exact Or.inr ⟨z1, h3 _ z2⟩) i4 i5 i6
    have fl : ((cs ++ mvD B P most false b d).map (tgt P)).foldl meetL L0 = ((mvD B P most false b d).map (tgt P)).foldl meetL ((cs.map (tgt P)).foldl meetL L0) := by rw [List.map_append, List.foldl_append]
    rw [f_BargeBasinModel_looksAtAll_L106, if_neg (show ¬ (4 : Int32) ≤ nI d from nI_ge (b := 4) (by omega) (by decide)), ev_b _ q1, un15_ap]
    cases well with
    | false =>
      rw [if_pos (show bI false = 0 by decide)]
      refine ⟨_, rfl, Or.inr ⟨⟨_, rfl⟩, ?_⟩⟩
      have := q5 rfl
      rw [← fl] at this
      rw [← List.append_assoc]
      exact fold_more this
    | true =>
      rw [if_neg (show ¬ bI true = 0 by decide), ev_bnd, nI_1]
      obtain ⟨y1, y2, y3, y4⟩ := q4 rfl
      rw [← fl, List.append_assoc, ← prs_app] at y4
      rw [← fl] at y1 y2
      rw [List.append_assoc, ← prs_app] at y3
      have := ih (d + 1) n (cs ++ mvD B P most false b d) st1 ed1 a1 a2 a3 a4 a5 a6 a7 a8 a9 a10 a11 a12 (by omega) (by omega) (by
        intro c hc
        rcases List.mem_append.mp hc with z | z
        · have := h3 c z; omega
        · have := mvD_rng z; omega) (by rw [List.length_append]; omega) ⟨y1, y2, y3, y4, q2, q3⟩
      rw [List.append_assoc] at this
      exact this
theorem m_lkL94 {B : Bas} {most s : Nat} {P : Nat → Nat} {L0 : List (Nat → Nat)} {A0 : List (Nat × Nat)} {kwl kk ks ky : Nat → Int32} (h : basOk B) (hr : rfB B kk ks ky) (hwl : rfW B kwl) (hP : stC B P) (hm : most ≤ 7) (hs : s < L0.length) (hg : gt L0 s = P) (hA0 : ∀ p, p ∈ A0 → p.1 < s) :
    ∀ (r b n : Nat) (cs : List Nat) (st ed : Int32) (kpl khd kch kdp kpr kbb kby kbs ked keb kwho kh : Nat → Int32), b + r = bn B → r < n → (∀ c, c ∈ cs → c < 32 * b + 1) → A0.length + cs.length + ((List.range' b r).flatMap (mvB B P most false)).length ≤ 1010000 → inS2 B P s L0 A0 cs st ed kpl khd kch kdp kpr kbb kby kbs ked keb kwho kh →
      ∃ x, f_BargeBasinModel_looksAtAll_L94 (nI most) (nI s) (nI (bw B)) (nI (bh B)) (nI (bn B)) kwl kk ks ky n (nI b) st ed kpl khd kch kdp kpr kbb kby kbs ked keb kwho kh = some x ∧
        ((∃ st' ed' kpl' khd' kch' kdp' kpr' kbb' kby' kbs' ked' keb' kwho' kh', x = .inr (st', ed', kpl', khd', kch', kdp', kpr', kbb', kby', kbs', ked', keb', kwho', kh') ∧ inS2 B P s L0 A0 (cs ++ (List.range' b r).flatMap (mvB B P most false)) st' ed' kpl' khd' kch' kdp' kpr' kbb' kby' kbs' ked' keb' kwho' kh') ∨
         ((∃ y, x = .inl y) ∧ 6000 < (((cs ++ (List.range' b r).flatMap (mvB B P most false)).map (tgt P)).foldl meetL L0).length)) := by
  have n12 := h.2.2.2.2.1
  intro r
  induction r with
  | zero =>
    intro b n cs st ed kpl khd kch kdp kpr kbb kby kbs ked keb kwho kh h1 h2 h3 h4 h5
    obtain ⟨n, rfl⟩ : ∃ z, n = z + 1 := ⟨n - 1, by omega⟩
    refine ⟨.inr (st, ed, kpl, khd, kch, kdp, kpr, kbb, kby, kbs, ked, keb, kwho, kh), ?_, Or.inl ⟨st, ed, kpl, khd, kch, kdp, kpr, kbb, kby, kbs, ked, keb, kwho, kh, rfl, by simpa using h5⟩⟩
    rw [f_BargeBasinModel_looksAtAll_L94, if_pos (nI_le (by omega) (by omega))]
  | succ r ih =>
    intro b n cs st ed kpl khd kch kdp kpr kbb kby kbs ked keb kwho kh h1 h2 h3 h4 h5
    obtain ⟨n, rfl⟩ : ∃ z, n = z + 1 := ⟨n - 1, by omega⟩
    rw [List.range'_succ, List.flatMap_cons] at h4 ⊢
    rw [List.length_append] at h4
    have mb : (List.range' 0 4).flatMap (mvD B P most false b) = mvB B P most false b := by
      unfold mvB; rw [List.range_eq_range']
    obtain ⟨x, x1, x2⟩ := m_lkL106 (most := most) (b := b) h hr hwl (by omega) hP hm hs hg hA0 4 0 jN cs st ed kpl khd kch kdp kpr kbb kby kbs ked keb kwho kh (by omega) (by decide) (by simpa using h3) (by rw [mb]; omega) h5
    rw [mb] at x2
    rw [nI_0] at x1
    rw [f_BargeBasinModel_looksAtAll_L94, if_neg (nI_ge (by omega) (by omega)), ev_b _ x1]
    rcases x2 with ⟨st1, ed1, a1, a2, a3, a4, a5, a6, a7, a8, a9, a10, a11, a12, ex, q⟩ | ⟨⟨y, ey⟩, q⟩
    · rw [ex, jsel_r, un14_ap, ev_bnd, nI_1]
      have := ih (b + 1) n (cs ++ mvB B P most false b) st1 ed1 a1 a2 a3 a4 a5 a6 a7 a8 a9 a10 a11 a12 (by omega) (by omega) (by
        intro c hc
        rcases List.mem_append.mp hc with z | z
        · have := h3 c z; omega
        · unfold mvB at z
          obtain ⟨d, hd, z2⟩ := List.mem_flatMap.mp z
          rw [List.mem_range] at hd
          have := mvD_rng z2; omega) (by rw [List.length_append]; omega) q
      rw [List.append_assoc] at this
      exact this
    · rw [ey, jsel_l]
      refine ⟨_, rfl, Or.inr ⟨⟨y, rfl⟩, ?_⟩⟩
      rw [← List.append_assoc]
      exact fold_more q
