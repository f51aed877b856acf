/-! look, layAll, and looksAtAll of the reference. -/
theorem fb_same {B : Bas} {P : Nat → Nat} : fbOf (bK B) (bS B) (bY B) P = fbA B P := rfl
theorem okB_of {B : Bas} {P : Nat → Nat} (h : basOk B) (hi : insA B P) : okB (bn B) (bK B) (bS B) (bY B) P := by
  refine ⟨h.2.2.2.2.1, fun b hb => ?_⟩
  obtain ⟨a1, a2, a3, a4, a5, a6, a7, a8⟩ := basOk_wh h hb
  have i1 := hi b hb
  have w8 := h.2.1
  have h8 := h.2.2.2.1
  exact ⟨a2, a3, ins_64 h hi hb, show P b % 8 + xW B b ≤ 8 by omega, show P b / 8 + xH B b ≤ 8 by omega⟩
theorem m_layAllB {B : Bas} {P : Nat → Nat} {kk ka ks ky : Nat → Int32} (h : basOk B) (hi : insA B P) (hr : rfB B kk ks ky) (hp : chP B P ka) (kw kh : Nat → Int32) :
    ∃ kw' kh', f_BargeBasinModel_layAll (nI (bn B)) kk ka ks ky kw kh = some (kw', kh') ∧ rfO B P kw' ∧ chP B P kh' := by
  refine ⟨_, _, m_layAll (okB_of h hi) (fun b hb => (hr b hb).1) hp (fun b hb => (hr b hb).2.1) (fun b hb => (hr b hb).2.2) kw kh, ?_, ?_⟩
  · intro f hf
    show (if f < 64 then whoOf (fbA B P) (bn B) f else kw f) = _
    rw [if_pos hf, whoN_oI]
  · intro b hb
    show (if b < bn B then ka b else kh b) = _
    rw [if_pos hb, hp b hb]
theorem m_look {B : Bas} {L : List (Nat → Nat)} {s : Nat} {kk ks ky kpl kwho kh : Nat → Int32} (h : basOk B) (hr : rfB B kk ks ky) (hp : rP B L kpl) (hs : s < L.length) (hl : L.length ≤ 6001) (hP : stC B (gt L s)) :
    ∃ kw' kh', f_BargeBasinModel_look (nI s) (nI (bn B)) kk ks ky kpl kwho kh = some (kw', kh') ∧ rfO B (gt L s) kw' ∧ chP B (gt L s) kh' := by
  have n12 := h.2.2.2.2.1
  have loop : ∀ (r b n : Nat) (kw kh : Nat → Int32), b + r = bn B → r < n → (∀ f, f < 64 → kw f = oI (whoN (fbA B (gt L s)) b f)) → (∀ c, c < b → kh c = nI (gt L s c)) →
      ∃ kw' kh', f_BargeBasinModel_look_L6 (nI s) (nI (bn B)) kk ks ky kpl n (nI b) kw kh = some (kw', kh') ∧ rfO B (gt L s) kw' ∧ chP B (gt L s) kh' := by
    intro r
    induction r with
    | zero =>
      intro b n kw kh h1 h2 h3 h4
      obtain ⟨n, rfl⟩ : ∃ z, n = z + 1 := ⟨n - 1, by omega⟩
      have e : b = bn B := by omega
      subst e
      exact ⟨kw, kh, by rw [f_BargeBasinModel_look_L6, if_pos (nI_le (Nat.le_refl _) (by omega))], h3, h4⟩
    | succ r ih =>
      intro b n kw kh h1 h2 h3 h4
      obtain ⟨n, rfl⟩ : ∃ z, n = z + 1 := ⟨n - 1, by omega⟩
      have hb : b < bn B := by omega
      have i1 := hP.1.1 b hb
      have pv := hp s hs b hb
      rw [← gt_at hs] at pv
      rw [f_BargeBasinModel_look_L6, if_neg (nI_ge hb (by omega)), idx12, ev_grdN _ (show 12 * s + b < 72012 by omega) (by decide), ev_bnd, ev_grdN _ (show b < 12 by omega) (by decide), ev_grdN _ (show b < 12 by omega) (by decide), nI_clamp (show 12 * s + b < 2 ^ 31 by omega), cl_nI (show b < 12 by omega), pv, pk_us, ev_b _ (m_layB h hr hb i1.1 i1.2 _), ev_bnd, nI_1]
      refine ih (b + 1) n _ _ (by omega) (by omega) (fun f hf => ?_) (fun c hc => ?_)
      · show (if fbA B (gt L s) b f = true then nI b else kw f) = oI (if fbA B (gt L s) b f = true then some b else whoN (fbA B (gt L s)) b f)
        by_cases z : fbA B (gt L s) b f = true
        · rw [if_pos z, if_pos z]; rfl
        · rw [if_neg z, if_neg z]; exact h3 f hf
      · by_cases z : c = b
        · subst z; exact pk_us
        · rw [pk_un z]; exact h4 c (by omega)
  obtain ⟨kw', kh', e, q1, q2⟩ := loop (bn B) 0 jN (fun f => if f < 64 then -1 else kwho f) kh (by omega) (by show bn B < 2000000; omega) (fun f hf => by show (if f < 64 then (-1 : Int32) else kwho f) = _; rw [if_pos hf]; rfl) (fun c hc => by omega)
  refine ⟨kw', kh', ?_, q1, q2⟩
  rw [nI_0] at e
  unfold f_BargeBasinModel_look
  rw [ev_b _ (m_clearWho kwho), ev_b _ e, un2_ap]
/-- all moves of the first s stands -/
def prA (B : Bas) (most : Nat) (L : List (Nat → Nat)) (s : Nat) : List (Nat × Nat) := (List.range s).flatMap fun s' => prs s' (mvs B (gt L s') most false)
theorem prA_s {B : Bas} {most s : Nat} {L : List (Nat → Nat)} : prA B most L (s + 1) = prA B most L s ++ prs s (mvs B (gt L s) most false) := by
  unfold prA
  rw [List.range_succ, List.flatMap_append]
  simp
theorem prA_ext {B : Bas} {most : Nat} {L l : List (Nat → Nat)} {s : Nat} (hs : s ≤ L.length) : prA B most (L ++ l) s = prA B most L s := by
  induction s with
  | zero => simp [prA]
  | succ s ih =>
    have g : gt (L ++ l) s = gt L s := gt_app (by omega)
    rw [prA_s, prA_s, ih (by omega), g]
theorem prA_lt {B : Bas} {most : Nat} {L : List (Nat → Nat)} {s : Nat} {p : Nat × Nat} (h : p ∈ prA B most L s) : p.1 < s := by
  unfold prA at h
  obtain ⟨s', h1, h2⟩ := List.mem_flatMap.mp h
  rw [List.mem_range] at h1
  have := (prs_mem h2).1
  omega
theorem prA_len {B : Bas} {most : Nat} {L : List (Nat → Nat)} (h : basOk B) (hL : ∀ P, P ∈ L → stC B P) : ∀ {s : Nat}, s ≤ L.length → (prA B most L s).length ≤ 168 * s
  | 0, _ => by simp [prA]
  | s + 1, hs => by
    rw [prA_s, List.length_append, prs_len]
    have h1 := prA_len h hL (s := s) (by omega) (most := most)
    have h2 := mvs_168 (most := most) (bk := false) h (hL _ (gt_mem (show s < L.length by omega))).1
    omega
theorem Lk_gt {B : Bas} {most s : Nat} {P0 : Nat → Nat} (hs : s < (Lk (sucB B most) P0 s).length) : Lk (sucB B most) P0 (s + 1) = ((mvs B (gt (Lk (sucB B most) P0 s) s) most false).map (tgt (gt (Lk (sucB B most) P0 s) s))).foldl meetL (Lk (sucB B most) P0 s) := by
  rw [Lk_go hs, gt_at hs]; rfl
theorem m_lkL68 {B : Bas} {most : Nat} {P0 : Nat → Nat} {kwl kk ks ky : Nat → Int32} (h : basOk B) (hr : rfB B kk ks ky) (hwl : rfW B kwl) (hm : most ≤ 7) :
    ∀ (r s n : Nat) (kpl khd kch kdp kpr kbb kby kbs kfe ked keb kwho kh : Nat → Int32), s + r = 6000 → r < n → (Lk (sucB B most) P0 s).length ≤ 6000 → s ≤ (Lk (sucB B most) P0 s).length → xS B (Lk (sucB B most) P0 s) (prA B most (Lk (sucB B most) P0 s) s) kpl khd kch kdp kpr kbb kby kbs ked keb → (∀ s', s' < s → kfe s' = nI (prA B most (Lk (sucB B most) P0 s) s').length) →
      ∃ x, f_BargeBasinModel_looksAtAll_L68 (nI most) (nI (bw B)) (nI (bh B)) (nI (bn B)) kwl kk ks ky n (nI s) (nI (Lk (sucB B most) P0 s).length) (nI (prA B most (Lk (sucB B most) P0 s) s).length) kpl khd kch kdp kpr kbb kby kbs kfe ked keb kwho kh = some x ∧
        ((∃ kpl' khd' kch' kdp' kpr' kbb' kby' kbs' kfe' ked' keb' kwho' kh', x = .inr (nI (Lk (sucB B most) P0 6001).length, nI (prA B most (Lk (sucB B most) P0 6001) (Lk (sucB B most) P0 6001).length).length, kpl', khd', kch', kdp', kpr', kbb', kby', kbs', kfe', ked', keb', kwho', kh') ∧ (Lk (sucB B most) P0 6001).length ≤ 6000 ∧
          xS B (Lk (sucB B most) P0 6001) (prA B most (Lk (sucB B most) P0 6001) (Lk (sucB B most) P0 6001).length) kpl' khd' kch' kdp' kpr' kbb' kby' kbs' ked' keb' ∧ ∀ s', s' < (Lk (sucB B most) P0 6001).length → kfe' s' = nI (prA B most (Lk (sucB B most) P0 6001) s').length) ∨
         ((∃ y, x = .inl y) ∧ 6000 < (Lk (sucB B most) P0 6001).length)) := by
  intro r
  have fin : ∀ (s n : Nat) (kpl khd kch kdp kpr kbb kby kbs kfe ked keb kwho kh : Nat → Int32), s ≤ 6000 → s = (Lk (sucB B most) P0 s).length → xS B (Lk (sucB B most) P0 s) (prA B most (Lk (sucB B most) P0 s) s) kpl khd kch kdp kpr kbb kby kbs ked keb → (∀ s', s' < s → kfe s' = nI (prA B most (Lk (sucB B most) P0 s) s').length) →
      ∃ x, f_BargeBasinModel_looksAtAll_L68 (nI most) (nI (bw B)) (nI (bh B)) (nI (bn B)) kwl kk ks ky (n + 1) (nI s) (nI (Lk (sucB B most) P0 s).length) (nI (prA B most (Lk (sucB B most) P0 s) s).length) kpl khd kch kdp kpr kbb kby kbs kfe ked keb kwho kh = some x ∧
        ((∃ kpl' khd' kch' kdp' kpr' kbb' kby' kbs' kfe' ked' keb' kwho' kh', x = .inr (nI (Lk (sucB B most) P0 6001).length, nI (prA B most (Lk (sucB B most) P0 6001) (Lk (sucB B most) P0 6001).length).length, kpl', khd', kch', kdp', kpr', kbb', kby', kbs', kfe', ked', keb', kwho', kh') ∧ (Lk (sucB B most) P0 6001).length ≤ 6000 ∧
          xS B (Lk (sucB B most) P0 6001) (prA B most (Lk (sucB B most) P0 6001) (Lk (sucB B most) P0 6001).length) kpl' khd' kch' kdp' kpr' kbb' kby' kbs' ked' keb' ∧ ∀ s', s' < (Lk (sucB B most) P0 6001).length → kfe' s' = nI (prA B most (Lk (sucB B most) P0 6001) s').length) ∨
         ((∃ y, x = .inl y) ∧ 6000 < (Lk (sucB B most) P0 6001).length)) := by
    intro s n kpl khd kch kdp kpr kbb kby kbs kfe ked keb kwho kh h6 hs hx hf
    have e := Lk_end (sc := sucB B most) (v0 := P0) (m := s) (by omega) (6001 - s)
    rw [show s + (6001 - s) = 6001 by omega] at e
    rw [e]
    refine ⟨_, ?_, Or.inl ⟨kpl, khd, kch, kdp, kpr, kbb, kby, kbs, kfe, ked, keb, kwho, kh, rfl, by omega, by rw [← hs]; exact hx, fun s' h' => hf s' (by omega)⟩⟩
    rw [f_BargeBasinModel_looksAtAll_L68, if_pos (nI_le (by omega) (by omega)), ← hs]
  induction r with
  | zero =>
    intro s n kpl khd kch kdp kpr kbb kby kbs kfe ked keb kwho kh h1 h2 h3 h4 h5 h6
    obtain ⟨n, rfl⟩ : ∃ z, n = z + 1 := ⟨n - 1, by omega⟩
    exact fin s n kpl khd kch kdp kpr kbb kby kbs kfe ked keb kwho kh (by omega) (by omega) h5 h6
  | succ r ih =>
    intro s n kpl khd kch kdp kpr kbb kby kbs kfe ked keb kwho kh h1 h2 h3 h4 h5 h6
    obtain ⟨n, rfl⟩ : ∃ z, n = z + 1 := ⟨n - 1, by omega⟩
    by_cases e : s = (Lk (sucB B most) P0 s).length
    · exact fin s n kpl khd kch kdp kpr kbb kby kbs kfe ked keb kwho kh (by omega) e h5 h6
    · have hs : s < (Lk (sucB B most) P0 s).length := by omega
      have hP := h5.1.1 _ (gt_mem hs)
      obtain ⟨kw1, kh1, e1, o1, p1⟩ := m_look (kwho := kwho) (kh := kh) h hr h5.1.2.1 hs (by omega) hP
      have pl := prA_len (most := most) h h5.1.1 h4
      have ml := mvs_168 (most := most) (bk := false) h hP.1
      have mb : (List.range' 0 (bn B)).flatMap (mvB B (gt (Lk (sucB B most) P0 s) s) most false) = mvs B (gt (Lk (sucB B most) P0 s) s) most false := by
        unfold mvs; rw [List.range_eq_range']
      obtain ⟨x, x1, x2⟩ := m_lkL94 (most := most) (L0 := Lk (sucB B most) P0 s) (A0 := prA B most (Lk (sucB B most) P0 s) s) h hr hwl hP hm hs rfl (fun p hp => prA_lt hp) (bn B) 0 jN [] _ _ kpl khd kch kdp kpr kbb kby kbs ked keb kw1 kh1 (by omega) (by have := h.2.2.2.2.1; show bn B < 2000000; omega) (fun c hc => by cases hc) (by rw [mb, List.length_nil]; omega) ⟨h3, rfl, rfl, by simpa [prs] using h5, o1, p1⟩
      rw [mb, List.nil_append, ← Lk_gt hs] at x2
      rw [nI_0] at x1
      rw [show ((([] : List Nat).map (tgt (gt (Lk (sucB B most) P0 s) s))).foldl meetL (Lk (sucB B most) P0 s)) = Lk (sucB B most) P0 s from rfl, show prs s [] = [] from rfl, List.append_nil] at x1
      rw [f_BargeBasinModel_looksAtAll_L68, if_neg (nI_ge hs (by omega)), ev_grdN _ (show s < 6002 by omega) (by decide), ev_b _ e1, un2_ap, ev_b _ x1]
      rcases x2 with ⟨st1, ed1, a1, a2, a3, a4, a5, a6, a7, a8, a9, a10, a11, a12, ex, q⟩ | ⟨⟨y, ey⟩, q⟩
      · rw [ex, jsel_r, un14_ap, ev_bnd, nI_1, nI_clamp (show s < 2 ^ 31 by omega)]
        obtain ⟨q1, q2, q3, q4, q5, q6⟩ := q
        rw [← Lk_gt hs] at q1 q2 q4
        obtain ⟨l, el⟩ := Lk_pre1 (sc := sucB B most) (v0 := P0) s
        have ea : prA B most (Lk (sucB B most) P0 s) s ++ prs s (mvs B (gt (Lk (sucB B most) P0 s) s) most false) = prA B most (Lk (sucB B most) P0 (s + 1)) (s + 1) := by
          rw [el, prA_ext (by omega), prA_s]
        rw [ea] at q3 q4
        subst q2; subst q3
        refine ih (s + 1) n a1 a2 a3 a4 a5 a6 a7 a8 (upd kfe s (nI (prA B most (Lk (sucB B most) P0 s) s).length)) a9 a10 a11 a12 (by omega) (by omega) q1 (by rw [el, List.length_append]; omega) q4 (fun s' hs' => ?_)
        rw [el, prA_ext (by omega)]
        by_cases z : s' = s
        · subst z; exact pk_us
        · rw [pk_un z]; exact h6 s' (by omega)
      · rw [ey, jsel_l]
        refine ⟨_, rfl, Or.inr ⟨⟨_, rfl⟩, ?_⟩⟩
        have := Lk_len (sc := sucB B most) (v0 := P0) (show s + 1 ≤ 6001 by omega)
        omega
