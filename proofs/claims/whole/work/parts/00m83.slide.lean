/-! slides of the reference; slide of both. -/
theorem m_slL7 {B : Bas} {P : Nat → Nat} {b d s : Nat} {kwl kk ks ky : Nat → Int32} (h : basOk B) (hs : stOk B P) (hr : rfB B kk ks ky) (hwl : rfW B kwl) (hb : b < bn B) (hd : d < 4) (hs7 : s ≤ 7) :
    ∀ (r k n : Nat) (kwho kh : Nat → Int32), k + r = min s (room B P b d false) → r < n → rfO B (updN P b (nxtk d (P b) k)) kwho → chP B (updN P b (nxtk d (P b) k)) kh →
      ∃ kwho' kh', (s ≤ room B P b d false → f_BargeBasinModel_slides_L7 (nI b) (nI d) (nI s) (nI (bw B)) (nI (bh B)) kwl kk ks ky n (nI (k + 1)) kwho kh = some (.inr (kwho', kh')) ∧ chP B (updN P b (nxtk d (P b) s)) kh') ∧
        (¬ s ≤ room B P b d false → f_BargeBasinModel_slides_L7 (nI b) (nI d) (nI s) (nI (bw B)) (nI (bh B)) kwl kk ks ky n (nI (k + 1)) kwho kh = some (.inl (nI (room B P b d false + 1), nI (hnd B P b d (nxtk d (P b) (room B P b d false)) false), kwho', kh')) ∧ rfO B (updN P b (nxtk d (P b) (room B P b d false))) kwho' ∧ chP B (updN P b (nxtk d (P b) (room B P b d false))) kh') := by
  have r7 := room_le (B := B) (P := P) (b := b) (d := d) (bk := false)
  intro r
  induction r with
  | zero =>
    intro k n kwho kh h1 h2 h3 h4
    obtain ⟨n, rfl⟩ : ∃ z, n = z + 1 := ⟨n - 1, by omega⟩
    refine ⟨kwho, kh, fun hk => ?_, fun hk => ?_⟩
    · have : k = s := by omega
      subst this
      exact ⟨by rw [f_BargeBasinModel_slides_L7, if_pos (nI_lt (by omega) (by omega))], h4⟩
    · have : k = room B P b d false := by omega
      subst this
      have s1 := (room_st (bk := false) h hs hb hd (Nat.le_refl _)).1
      have ne : hnd B P b d (nxtk d (P b) (room B P b d false)) false ≠ 0 := room_stop h hs hb hd
      have lt := hnd_lt (B := B) (P := P) (b := b) (d := d) (q := nxtk d (P b) (room B P b d false)) (bk := false)
      have mh := m_hnd h s1 hr hwl h3 h4 hb hd
      rw [hnd_upd, updN_s] at mh
      refine ⟨?_, h3, h4⟩
      rw [f_BargeBasinModel_slides_L7, if_neg (nI_nlt (by omega) (by omega)), ev_b _ mh, if_neg (nI_nle (by omega) (by omega))]
  | succ r ih =>
    intro k n kwho kh h1 h2 h3 h4
    obtain ⟨n, rfl⟩ : ∃ z, n = z + 1 := ⟨n - 1, by omega⟩
    have s1 := (room_st (bk := false) h hs hb hd (k := k) (by omega)).1
    have w0 : hnd B (updN P b (nxtk d (P b) k)) b d (updN P b (nxtk d (P b) k) b) false = 0 := by
      rw [hnd_upd, updN_s]
      exact room_way (by omega)
    obtain ⟨kwho1, e1, o1⟩ := m_step h s1 hr h3 h4 hb hd w0
    have pos : updN (updN P b (nxtk d (P b) k)) b (nxt d (updN P b (nxtk d (P b) k) b)) = updN P b (nxtk d (P b) (k + 1)) := by rw [updN_two, updN_s, nxtk_s]
    rw [pos] at o1
    have c1 : chP B (updN P b (nxtk d (P b) (k + 1))) (upd kh b (nI (nxt d (updN P b (nxtk d (P b) k) b)))) := by
      rw [← pos]; exact chP_upd h4
    have ev : ∀ X, f_BargeBasinModel_slides_L7 (nI b) (nI d) (nI s) (nI (bw B)) (nI (bh B)) kwl kk ks ky n (nI (k + 1 + 1)) kwho1 (upd kh b (nI (nxt d (updN P b (nxtk d (P b) k) b)))) = X → f_BargeBasinModel_slides_L7 (nI b) (nI d) (nI s) (nI (bw B)) (nI (bh B)) kwl kk ks ky (n + 1) (nI (k + 1)) kwho kh = X := by
      intro X hX
      rw [f_BargeBasinModel_slides_L7, if_neg (nI_nlt (by omega) (by omega)), ev_b _ (m_hnd h s1 hr hwl h3 h4 hb hd), w0, nI_0, if_pos (show (0 : Int32) ≤ 0 by decide), ev_b _ e1, un2_ap, ev_bnd, nI_1]
      exact hX
    obtain ⟨kw2, kh2, e2, e3⟩ := ih (k + 1) n kwho1 _ (by omega) (by omega) o1 c1
    exact ⟨kw2, kh2, fun hk => ⟨ev _ (e2 hk).1, (e2 hk).2⟩, fun hk => ⟨ev _ (e3 hk).1, (e3 hk).2⟩⟩
theorem m_slL98 {v1 : Int32} (ub uf ut : Nat → Int32) : ∀ (r i n : Nat) (b f t : Nat → Int32), i + r = 60 → 1 ≤ i → r < n → (∀ k, k + 1 < i → b k = ub (k + 1) ∧ f k = uf (k + 1) ∧ t k = ut (k + 1)) → (∀ k, i ≤ k + 1 → b k = ub k ∧ f k = uf k ∧ t k = ut k) →
    ∃ b' f' t', f_BargeBasinModel_slides_L98 v1 n (nI i) b f t = some (b', f', t') ∧ ∀ k, k < 59 → b' k = ub (k + 1) ∧ f' k = uf (k + 1) ∧ t' k = ut (k + 1) := by
  intro r
  induction r with
  | zero =>
    intro i n b f t h1 h2 h3 h4 h5
    obtain ⟨n, rfl⟩ : ∃ z, n = z + 1 := ⟨n - 1, by omega⟩
    exact ⟨b, f, t, by rw [f_BargeBasinModel_slides_L98, if_pos (show (60 : Int32) ≤ nI i from nI_le (a := 60) (by omega) (by omega))], fun k hk => h4 k (by omega)⟩
  | succ r ih =>
    intro i n b f t h1 h2 h3 h4 h5
    obtain ⟨n, rfl⟩ : ∃ z, n = z + 1 := ⟨n - 1, by omega⟩
    have im : nI i - 1 = nI (i - 1) := pk_sub (a := i) (b := 1) h2
    rw [f_BargeBasinModel_slides_L98, if_neg (show ¬ (60 : Int32) ≤ nI i from nI_ge (b := 60) (by omega) (by decide)), im]
    simp only [ev_grdN _ (show i < 60 by omega) (show 60 < 2 ^ 31 by decide), ev_grdN _ (show i - 1 < 60 by omega) (show 60 < 2 ^ 31 by decide), ev_bnd, nI_1, nI_clamp (show i < 2 ^ 31 by omega), nI_clamp (show i - 1 < 2 ^ 31 by omega)]
    obtain ⟨a1, a2, a3⟩ := h5 i (by omega)
    refine ih (i + 1) n _ _ _ (by omega) (by omega) (by omega) (fun k hk => ?_) (fun k hk => ?_)
    · by_cases z : k = i - 1
      · subst z
        rw [pk_us, pk_us, pk_us, a1, a2, a3, show i - 1 + 1 = i by omega]
        exact ⟨rfl, rfl, rfl⟩
      · rw [pk_un z, pk_un z, pk_un z]; exact h4 k (by omega)
    · rw [pk_un (by omega), pk_un (by omega), pk_un (by omega)]; exact h5 k (by omega)
theorem m_slides {B : Bas} {P : Nat → Nat} {b d s D : Nat} {T : List Nat} {S : Nat → Nat → Nat} {kwl kk kat ks ky : Nat → Int32} {um rm : Int32} {ub uf ut rb rf rt : Nat → Int32} (h : basOk B) (hP : stC B P) (hr : rfB B kk ks ky) (hwl : rfW B kwl) (hp : chP B P kat) (hT : lgT B P T S D) (hl : lgM T S D um rm ub uf ut rb rf rt) (hb : b < bn B) (hd : d < 4) (hs7 : s ≤ 7) (w1 w2 w3 : Int32) (kwho kh : Nat → Int32) :
    (s ≤ room B P b d false → ∃ um' rm' kat' ub' uf' ut' kwho' kh', f_BargeBasinModel_slides (nI b) (nI d) (nI s) (nI (bw B)) (nI (bh B)) (nI (bn B)) um rm w1 w2 w3 kwl kk kat ks ky ub uf ut kwho kh = some (1, um', rm', w1, w2, w3, kat', ub', uf', ut', kwho', kh') ∧ chP B (updN P b (nxtk d (P b) s)) kat' ∧ lgM (nxT T D (32 * b + 8 * d + s)) (nxS S D (updN P b (nxtk d (P b) s))) (nxD D) um' rm' ub' uf' ut' rb rf rt) ∧
    (¬ s ≤ room B P b d false → ∃ o kwho' kh', f_BargeBasinModel_slides (nI b) (nI d) (nI s) (nI (bw B)) (nI (bh B)) (nI (bn B)) um rm w1 w2 w3 kwl kk kat ks ky ub uf ut kwho kh = some (0, um, rm, nI (room B P b d false + 1), nI (hnd B P b d (nxtk d (P b) (room B P b d false)) false), oI o, kat, ub, uf, ut, kwho', kh') ∧ whoW B P b d (nxtk d (P b) (room B P b d false)) (hnd B P b d (nxtk d (P b) (room B P b d false)) false) o) := by
  have n12 := h.2.2.2.2.1
  obtain ⟨kw1, kh1, e1, o1, p1⟩ := m_layAllB h hP.1.1 hr hp kwho kh
  have z0 : updN P b (nxtk d (P b) 0) = P := updN_self
  have r7 := room_le (B := B) (P := P) (b := b) (d := d) (bk := false)
  obtain ⟨kw2, kh2, A, C⟩ := m_slL7 h hP.1 hr hwl hb hd hs7 (min s (room B P b d false)) 0 jN kw1 kh1 (by omega) (by show _ < 2000000; omega) (by rw [z0]; exact o1) (by rw [z0]; exact p1)
  have b12 : b < 12 := by omega
  constructor
  · intro hk
    obtain ⟨e2, c2⟩ := A hk
    obtain ⟨t1, t2, t3, t4, t5⟩ := hT
    obtain ⟨l1, l2, l3, l4⟩ := hl
    have len := nxT_len (c := 32 * b + 8 * d + s) t1 t2
    have mc := mv_code (b := b) (d := d) (k := s) hd (by omega)
    have qv : kh2 b = nI (nxtk d (P b) s) := by have := c2 b hb; rw [updN_s] at this; exact this
    have fin : ∀ (E : Nat) (b' f' t' : Nat → Int32), E < 60 → f_BargeBasinModel_slides_J169 (nI b) (nI E) rm w1 w2 w3 kat b' f' t' kw2 kh2 = some (1, nI (E + 1), 0, w1, w2, w3, upd kat b (nI (nxtk d (P b) s)), upd b' E (nI b), upd f' E (nI (P b)), upd t' E (nI (nxtk d (P b) s)), kw2, kh2) := by
      intro E b' f' t' hE
      unfold f_BargeBasinModel_slides_J169
      simp only [ev_grdN _ hE (show 60 < 2 ^ 31 by decide), ev_grdN _ b12 (show 12 < 2 ^ 31 by decide), ev_bnd, nI_1, cl_nI b12, nI_clamp (show E < 2 ^ 31 by omega), hp b hb, qv]
    unfold f_BargeBasinModel_slides
    rw [ev_b _ e1, un2_ap, ev_b _ (show f_BargeBasinModel_slides_L7 (nI b) (nI d) (nI s) (nI (bw B)) (nI (bh B)) kwl kk ks ky jN 1 kw1 kh1 = _ from e2), jsel_r, un2_ap, l1]
    by_cases e : D = 60
    · subst e
      obtain ⟨b', f', t', e3, q3⟩ := m_slL98 (v1 := nI b) ub uf ut 59 1 jN ub uf ut (by omega) (Nat.le_refl _) (by decide) (fun k hk => by omega) (fun k _ => ⟨rfl, rfl, rfl⟩)
      rw [if_pos (show nI 60 = 60 from rfl), ev_b _ (show f_BargeBasinModel_slides_L98 (nI b) jN 1 ub uf ut = _ from e3), un3_ap, ev_bnd, show nI 60 - 1 = nI 59 by decide, fin 59 b' f' t' (by decide)]
      refine ⟨_, _, _, _, _, _, _, _, rfl, chP_upd hp, rfl, by rw [len]; rfl, fun k hk => ?_, fun j hj => by rw [len] at hj; have : j < 60 - 60 := hj; omega⟩
      have hk60 : k < 60 := hk
      rw [nxT_at t1 t2 hk, if_pos rfl]
      unfold nxS
      simp only [if_true]
      by_cases z : k < 59
      · obtain ⟨q1, q2, q4⟩ := q3 k z
        rw [if_pos z, if_pos (show k < 60 by omega), if_pos (show k + 1 < 60 by omega), pk_un (by omega), pk_un (by omega), pk_un (by omega), q1, q2, q4]
        exact l3 (k + 1) (by omega)
      · have : k = 59 := by omega
        subst this
        rw [if_neg z, if_pos (show 59 < 60 by decide), if_neg (show ¬ 59 + 1 < 60 by decide), pk_us, pk_us, pk_us, mc.1, show S (59 + 1) = P from t3, updN_s]
        exact ⟨rfl, rfl, rfl⟩
    · have D60 : D < 60 := by omega
      have ne : ¬ nI D = 60 := fun z => e ((nI_eq (b := 60) (by omega) (by decide)).mp z)
      rw [if_neg ne, fin D ub uf ut D60]
      have dd : nxD D = D + 1 := by unfold nxD; rw [if_neg e]
      refine ⟨_, _, _, _, _, _, _, _, rfl, chP_upd hp, by rw [dd], by rw [len]; simp; rfl, fun k hk => ?_, fun j hj => by rw [len] at hj; omega⟩
      rw [nxT_at t1 t2 hk, if_neg e]
      rw [dd] at hk
      unfold nxS
      simp only [if_neg e]
      by_cases z : k < D
      · rw [if_pos z, if_pos (show k ≤ D by omega), if_pos (show k + 1 ≤ D by omega), pk_un (by omega), pk_un (by omega), pk_un (by omega)]
        exact l3 k z
      · have : k = D := by omega
        subst this
        rw [if_neg z, if_pos (Nat.le_refl _), if_neg (show ¬ k + 1 ≤ k by omega), pk_us, pk_us, pk_us, mc.1, t3, updN_s]
        exact ⟨rfl, rfl, rfl⟩
  · intro hk
    obtain ⟨e2, o2, c2⟩ := C hk
    have s1 := (room_st (bk := false) h hP.1 hb hd (Nat.le_refl _)).1
    obtain ⟨w5, w4⟩ := m_who (kwl := kwl) h s1 hr o2 c2 hb hd
    rw [hnd_upd, updN_s] at w5 w4
    rw [fst_upd] at w5 w4
    have lt := hnd_lt (B := B) (P := P) (b := b) (d := d) (q := nxtk d (P b) (room B P b d false)) (bk := false)
    have ev : ∀ x : Int32, (hnd B P b d (nxtk d (P b) (room B P b d false)) false = 5 → f_BargeBasinModel_beside (nI b) (nI (bw B)) (nI (bh B)) kw2 kh2 = some x) → (hnd B P b d (nxtk d (P b) (room B P b d false)) false = 4 → f_BargeBasinModel_least (nI b) (nI d) kk ks ky kw2 kh2 = some x) → (hnd B P b d (nxtk d (P b) (room B P b d false)) false ≠ 4 → hnd B P b d (nxtk d (P b) (room B P b d false)) false ≠ 5 → x = -1) →
        f_BargeBasinModel_slides (nI b) (nI d) (nI s) (nI (bw B)) (nI (bh B)) (nI (bn B)) um rm w1 w2 w3 kwl kk kat ks ky ub uf ut kwho kh = some (0, um, rm, nI (room B P b d false + 1), nI (hnd B P b d (nxtk d (P b) (room B P b d false)) false), x, kat, ub, uf, ut, kw2, kh2) := by
      intro x x5 x4 x0
      unfold f_BargeBasinModel_slides
      rw [ev_b _ e1, un2_ap, ev_b _ (show f_BargeBasinModel_slides_L7 (nI b) (nI d) (nI s) (nI (bw B)) (nI (bh B)) kwl kk ks ky jN 1 kw1 kh1 = _ from e2), jsel_l, un4_ap]
      have d5 : (nI (hnd B P b d (nxtk d (P b) (room B P b d false)) false) = 5) = (hnd B P b d (nxtk d (P b) (room B P b d false)) false = 5) := nI_eqL (j := 5) (by omega) (by decide)
      have d4 : (nI (hnd B P b d (nxtk d (P b) (room B P b d false)) false) = 4) = (hnd B P b d (nxtk d (P b) (room B P b d false)) false = 4) := nI_eqL (j := 4) (by omega) (by decide)
      simp only [d5, d4]
      by_cases y5 : hnd B P b d (nxtk d (P b) (room B P b d false)) false = 5
      · rw [if_pos y5, ev_b _ (x5 y5)]
      · rw [if_neg y5]
        by_cases y4 : hnd B P b d (nxtk d (P b) (room B P b d false)) false = 4
        · rw [if_pos y4, ev_b _ (x4 y4)]
        · rw [if_neg y4, x0 y4 y5]
    by_cases y5 : hnd B P b d (nxtk d (P b) (room B P b d false)) false = 5
    · obtain ⟨o, q1, q2⟩ := w5 y5
      exact ⟨o, kw2, kh2, ev _ (fun _ => q1) (fun z => by omega) (fun _ z => absurd y5 z), fun z => by omega, fun _ => q2, fun _ z => absurd y5 z⟩
    · by_cases y4 : hnd B P b d (nxtk d (P b) (room B P b d false)) false = 4
      · obtain ⟨o, q1, q2⟩ := w4 y4
        exact ⟨o, kw2, kh2, ev _ (fun z => by omega) (fun _ => q1) (fun z => absurd y4 z), fun _ => q2, fun z => by omega, fun z => absurd y4 z⟩
      · exact ⟨none, kw2, kh2, ev _ (fun z => absurd z y5) (fun z => absurd z y4) (fun _ _ => rfl), fun z => absurd z y4, fun z => absurd z y5, fun _ _ => rfl⟩
