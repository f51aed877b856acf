/-! low of the reference. -/
def whAt (B : Bas) (P : Nat → Nat) (f c : Nat) : Bool := decide (whoN (fbA B P) (bn B) f = some c)
theorem whAt_e {B : Bas} {P : Nat → Nat} {f c : Nat} (hP : stC B P) (hf : f < 64) (hc : c < bn B) : whAt B P f c = fbA B P c f := by
  unfold whAt
  rw [Bool.eq_iff_iff, decide_eq_true_eq, whoN_some hP.1.2.1 hf]
  exact ⟨fun z => z.2, fun z => ⟨hc, z⟩⟩
theorem nar1 : vp_nar .boolean (1 : Int32) = 1 := nar_bI true
theorem m_swL {B : Bas} {P : Nat → Nat} {m g J : Nat} {kwho : Nat → Int32} (h : basOk B) (ho : rfO B P kwho) (hg : 1 ≤ g) (hg8 : g ≤ 8) (hJ : m + g * J < 64) :
    ∀ (r i n : Nat) (kc : Nat → Int32) (p : Nat → Bool), i + r = J + 1 → r < n → (∀ c, c < bn B → kc c = bI (p c)) → ∃ kc', f_BargeBasinModel_sweep_L70 (nI g) (nI (m + g * J)) kwho n (nI (m + g * i)) kc = some kc' ∧ ∀ c, c < bn B → kc' c = bI (p c || (List.range' i r).any fun t => whAt B P (m + g * t) c) := by
  have n12 := h.2.2.2.2.1
  intro r
  induction r with
  | zero =>
    intro i n kc p h1 h2 h3
    obtain ⟨n, rfl⟩ : ∃ z, n = z + 1 := ⟨n - 1, by omega⟩
    have e : i = J + 1 := by omega
    subst e
    have e8 : g * (J + 1) = g * J + g := by rw [Nat.mul_add, Nat.mul_one]
    have lt : (nI (m + g * J) < nI (m + g * (J + 1))) = (m + g * J < m + g * (J + 1)) := nI_ltE (by omega) (by rw [e8]; omega)
    refine ⟨kc, ?_, fun c hc => by rw [h3 c hc]; simp⟩
    rw [f_BargeBasinModel_sweep_L70, if_pos (by rw [lt, e8]; omega)]
  | succ r ih =>
    intro i n kc p h1 h2 h3
    obtain ⟨n, rfl⟩ : ∃ z, n = z + 1 := ⟨n - 1, by omega⟩
    have mono : g * i ≤ g * J := Nat.mul_le_mul_left _ (by omega)
    have lt : (nI (m + g * J) < nI (m + g * i)) = (m + g * J < m + g * i) := nI_ltE (by omega) (by omega)
    have nx : nI (m + g * i) + nI g = nI (m + g * (i + 1)) := by rw [nI_add, Nat.mul_add, Nat.mul_one, Nat.add_assoc]
    have f64 : m + g * i < 64 := by omega
    rw [f_BargeBasinModel_sweep_L70, if_neg (by rw [lt]; omega), nx]
    simp only [ev_grdN _ f64 (show 64 < 2 ^ 31 by decide), nI_clamp (show m + g * i < 2 ^ 31 by omega), ev_bnd, ho _ f64]
    cases eo : whoN (fbA B P) (bn B) (m + g * i) with
    | none =>
      rw [if_pos (show oI none < 0 by decide)]
      obtain ⟨kc', e1, e2⟩ := ih (i + 1) n kc p (by omega) (by omega) h3
      refine ⟨kc', e1, fun c hc => ?_⟩
      rw [e2 c hc, List.range'_succ, List.any_cons, show whAt B P (m + g * i) c = false by unfold whAt; rw [eo]; simp, Bool.false_or]
    | some a =>
      have ha := (whoN_mem eo).1
      rw [show oI (some a) = nI a from rfl, if_neg (nI_nn (by omega)), ev_grdN _ (show a < 12 by omega) (by decide), cl_nI (show a < 12 by omega), nar1]
      obtain ⟨kc', e1, e2⟩ := ih (i + 1) n (upd kc a 1) (fun c => p c || decide (c = a)) (by omega) (by omega) (fun c hc => by
        by_cases z : c = a
        · subst z; rw [pk_us]; simp [bI]
        · rw [pk_un z, h3 c hc]; simp [z])
      refine ⟨kc', e1, fun c hc => ?_⟩
      have w : whAt B P (m + g * i) c = decide (c = a) := by
        unfold whAt; rw [eo]
        by_cases z : c = a
        · subst z; simp
        · simp [z]; exact fun q => z q.symm
      rw [e2 c hc, List.range'_succ, List.any_cons, w, Bool.or_assoc]
/-- the fields that sweep goes over are those of the way -/
theorem way_any {B : Bas} {P : Nat → Nat} {b c : Nat} (h : basOk B) (hP : stC B P) (hb : b < bn B) (hc : c < bn B) (k5 : bK B b = 5) : ((List.range' 0 (qqA B P b + bS B b)).any fun t => whAt B P (loA B P b + stp (bY B b) * t) c) = anyF fun f => fbA B P c f && wyA B P b f := by
  obtain ⟨o1, o2, o3, o4, o5, o6, o7, o8⟩ := way_geo h hP hb k5
  have y2 : bY B b = 0 ∨ bY B b = 1 := by omega
  rw [Bool.eq_iff_iff, anyF_t, List.any_eq_true]
  constructor
  · rintro ⟨t, t1, t2⟩
    rw [List.mem_range'_1] at t1
    rcases y2 with e | e
    · have q := o3.1 e
      rw [e, show stp 0 = 1 from rfl, Nat.one_mul] at t2
      rw [whAt_e hP (by omega) hc] at t2
      refine ⟨loA B P b + t, by omega, ?_⟩
      rw [t2, Bool.true_and]
      unfold wyA rwA
      rw [if_pos e, decide_eq_true_eq]
      omega
    · have q := o3.2 e
      rw [e, show stp 1 = 8 from rfl] at t2
      rw [whAt_e hP (by omega) hc] at t2
      refine ⟨loA B P b + 8 * t, by omega, ?_⟩
      rw [t2, Bool.true_and]
      unfold wyA rwA
      rw [if_neg (by omega), decide_eq_true_eq]
      omega
  · rintro ⟨f, f1, f2⟩
    rw [Bool.and_eq_true] at f2
    obtain ⟨f3, f4⟩ := f2
    unfold wyA rwA at f4
    rcases y2 with e | e
    · rw [if_pos e, decide_eq_true_eq] at f4
      refine ⟨f - loA B P b, by rw [List.mem_range'_1]; omega, ?_⟩
      rw [e, show stp 0 = 1 from rfl, Nat.one_mul, show loA B P b + (f - loA B P b) = f by omega, whAt_e hP f1 hc]
      exact f3
    · rw [if_neg (by omega), decide_eq_true_eq] at f4
      refine ⟨f / 8 - loA B P b / 8, by rw [List.mem_range'_1]; omega, ?_⟩
      rw [e, show stp 1 = 8 from rfl, show loA B P b + 8 * (f / 8 - loA B P b / 8) = f by omega, whAt_e hP f1 hc]
      exact f3
theorem own_way {B : Bas} {P : Nat → Nat} {b : Nat} (h : basOk B) (hP : stC B P) (hb : b < bn B) (k5 : bK B b = 5) : (anyF fun f => fbA B P b f && wyA B P b f) = true := by
  obtain ⟨o1, o2, o3, o4, o5, o6, o7, o8⟩ := way_geo h hP hb k5
  obtain ⟨g1, g2, g3, g4⟩ := hP.2.2 b hb k5
  have y2 : bY B b = 0 ∨ bY B b = 1 := by omega
  rw [anyF_t]
  refine ⟨P b, ins_64 h hP.1.1 hb, ?_⟩
  rw [fb_own h hb, Bool.true_and]
  unfold wyA rwA qqA loA
  rcases y2 with e | e
  · have := g1 e
    rw [if_pos e, if_pos e, decide_eq_true_eq]
    omega
  · have := g2 e
    rw [if_neg (by omega), if_neg (by omega), decide_eq_true_eq]
    omega
theorem m_sweep {B : Bas} {P : Nat → Nat} {b : Nat} {kk ks ky kat kg kwho kc : Nat → Int32} {p : Nat → Bool} (h : basOk B) (hP : stC B P) (hr : rfB B kk ks ky) (hp : chP B P kat) (hg : chG B kg) (ho : rfO B P kwho) (hb : b < bn B) (k5 : bK B b = 5) (hk : ∀ c, c < bn B → kc c = bI (p c)) : ∃ kc', f_BargeBasinModel_sweep (nI b) kat ks ky kg kwho kc = some kc' ∧ ∀ c, c < bn B → kc' c = bI (p c || anyF fun f => fbA B P c f && wyA B P b f) := by
  obtain ⟨o1, o2, o3, o4, o5, o6, o7, o8⟩ := way_geo h hP hb k5
  have b12 := (basOk_wh h hb).1
  have p64 := ins_64 h hP.1.1 hb
  have g64 := h.2.2.2.2.2.2 b hb k5
  have y2 : bY B b = 0 ∨ bY B b = 1 := by omega
  have st1 : 1 ≤ stp (bY B b) := by rcases y2 with e | e <;> rw [e] <;> decide
  have st8 : stp (bY B b) ≤ 8 := by rcases y2 with e | e <;> rw [e] <;> decide
  have hi : loA B P b + stp (bY B b) * (qqA B P b + bS B b - 1) < 64 := by
    rcases y2 with e | e
    · have := o3.1 e; rw [e, show stp 0 = 1 from rfl]; omega
    · have := o3.2 e; rw [e, show stp 1 = 8 from rfl]; omega
  have q7 : qqA B P b ≤ 7 := by
    rcases y2 with e | e
    · have := o3.1 e; omega
    · have := o3.2 e; omega
  obtain ⟨kc', e1, e2⟩ := m_swL (P := P) (J := qqA B P b + bS B b - 1) h ho st1 st8 hi (qqA B P b + bS B b) 0 jN (upd kc b 1) (fun c => p c || decide (c = b)) (by omega) (by show qqA B P b + bS B b < 2000000; omega) (fun c hc => by
    by_cases z : c = b
    · subst z; rw [pk_us]; simp [bI]
    · rw [pk_un z, hk c hc]; simp [z])
  refine ⟨kc', ?_, fun c hc => ?_⟩
  · have mm := mmI p64 g64
    have s1 : nI (bS B b) - 1 = nI (bS B b - 1) := by
      have : nI (bS B b) = nI (bS B b - 1) + 1 := by rw [nI_1]; congr 1; omega
      rw [this, Int32.add_sub_cancel]
    have J : f_BargeBasinModel_sweep_J22 (nI b) (nI (stp (bY B b))) kat ks kg kwho (upd kc b 1) = some kc' := by
      unfold f_BargeBasinModel_sweep_J22
      simp only [ev_grdN _ b12 (show 12 < 2 ^ 31 by decide), cl_nI b12, hp b hb, hg b hb k5, mm.1, mm.2, ev_bnd, (hr b hb).2.1, s1]
      rw [pk_mul, nI_add, o2, Nat.add_assoc, ← Nat.mul_add, show qqA B P b + (bS B b - 1) = qqA B P b + bS B b - 1 by omega]
      rw [ev_b _ (show f_BargeBasinModel_sweep_L70 (nI (stp (bY B b))) (nI (loA B P b + stp (bY B b) * (qqA B P b + bS B b - 1))) kwho jN (nI (min (P b) (bG B b))) (upd kc b 1) = some kc' from e1)]
    unfold f_BargeBasinModel_sweep
    rw [ev_grdN _ b12 (by decide), ev_grdN _ b12 (by decide), cl_nI b12, nar1, (hr b hb).2.2]
    rcases y2 with e | e
    · rw [e] at J ⊢
      rw [if_pos (show nI 0 = 0 from rfl)]; exact J
    · rw [e] at J ⊢
      rw [if_neg (show ¬ nI 1 = 0 by decide)]; exact J
  · rw [e2 c hc, way_any h hP hb hc k5]
    by_cases z : c = b
    · subst z; rw [own_way h hP hb k5]; simp
    · simp [z]
theorem m_lowL29 {n0 : Nat} (hn : n0 ≤ 12) : ∀ (r b n : Nat) (kc : Nat → Int32), b + r = n0 → r < n → (∀ c, c < b → kc c = 0) → ∃ kc', f_BargeBasinModel_low_L29 (nI n0) n (nI b) kc = some kc' ∧ ∀ c, c < n0 → kc' c = 0 := by
  intro r
  induction r with
  | zero =>
    intro b n kc h1 h2 h3
    obtain ⟨n, rfl⟩ : ∃ z, n = z + 1 := ⟨n - 1, by omega⟩
    have e : b = n0 := by omega
    subst e
    exact ⟨kc, by rw [f_BargeBasinModel_low_L29, if_pos (nI_le (Nat.le_refl _) (by omega))], h3⟩
  | succ r ih =>
    intro b n kc h1 h2 h3
    obtain ⟨n, rfl⟩ : ∃ z, n = z + 1 := ⟨n - 1, by omega⟩
    rw [f_BargeBasinModel_low_L29, if_neg (nI_ge (show b < n0 by omega) (by omega)), ev_grdN _ (show b < 12 by omega) (by decide), cl_nI (show b < 12 by omega), ev_bnd, nI_1, show vp_nar .boolean (0 : Int32) = 0 from nar_bI false]
    exact ih (b + 1) n _ (by omega) (by omega) (fun c hc => by
      by_cases z : c = b
      · rw [z, pk_us]
      · rw [pk_un z]; exact h3 c (by omega))
def lwN (B : Bas) (P : Nat → Nat) (n c : Nat) : Bool := (List.range n).any fun b => awA B P b && anyF fun f => fbA B P c f && wyA B P b f
theorem lw_eq {B : Bas} {P : Nat → Nat} {c : Nat} : lwN B P (bn B) c = lwA B P c := by
  unfold lwN lwA ovA
  rw [Bool.eq_iff_iff, anyF_t, List.any_eq_true]
  constructor
  · rintro ⟨b, b1, b2⟩
    rw [Bool.and_eq_true, anyF_t] at b2
    obtain ⟨b3, f, f1, f2⟩ := b2
    rw [Bool.and_eq_true] at f2
    refine ⟨f, f1, ?_⟩
    rw [f2.1, Bool.true_and, List.any_eq_true]
    exact ⟨b, b1, by rw [b3, f2.2]; rfl⟩
  · rintro ⟨f, f1, f2⟩
    rw [Bool.and_eq_true, List.any_eq_true] at f2
    obtain ⟨f3, b, b1, b2⟩ := f2
    rw [Bool.and_eq_true] at b2
    refine ⟨b, b1, ?_⟩
    rw [b2.1, Bool.true_and, anyF_t]
    exact ⟨f, f1, by rw [f3, b2.2]; rfl⟩
theorem m_lowL52 {B : Bas} {P : Nat → Nat} {kk ks ky kat kg kwho : Nat → Int32} (h : basOk B) (hP : stC B P) (hr : rfB B kk ks ky) (hp : chP B P kat) (hg : chG B kg) (ho : rfO B P kwho) : ∀ (r b n : Nat) (kc : Nat → Int32), b + r = bn B → r < n → (∀ c, c < bn B → kc c = bI (lwN B P b c)) → ∃ kc', f_BargeBasinModel_low_L52 (nI (bn B)) kk kat ks ky kg kwho n (nI b) kc = some kc' ∧ ∀ c, c < bn B → kc' c = bI (lwA B P c) := by
  have n12 := h.2.2.2.2.1
  intro r
  induction r with
  | zero =>
    intro b n kc h1 h2 h3
    obtain ⟨n, rfl⟩ : ∃ z, n = z + 1 := ⟨n - 1, by omega⟩
    have e : b = bn B := by omega
    subst e
    exact ⟨kc, by rw [f_BargeBasinModel_low_L52, if_pos (nI_le (Nat.le_refl _) (by omega))], fun c hc => by rw [h3 c hc, lw_eq]⟩
  | succ r ih =>
    intro b n kc h1 h2 h3
    obtain ⟨n, rfl⟩ : ∃ z, n = z + 1 := ⟨n - 1, by omega⟩
    have hb : b < bn B := by omega
    obtain ⟨a1, a2, -⟩ := basOk_wh h hb
    have p64 := ins_64 h hP.1.1 hb
    have nx : ∀ c, lwN B P (b + 1) c = (lwN B P b c || (awA B P b && anyF fun f => fbA B P c f && wyA B P b f)) := fun c => any_s
    have c5 : (nI (bK B b) = 5) = (bK B b = 5) := nI_eqL (j := 5) (by omega) (by decide)
    rw [f_BargeBasinModel_low_L52, if_neg (nI_ge hb (by omega))]
    simp only [ev_grdN _ a1 (show 12 < 2 ^ 31 by decide), cl_nI a1, (hr b hb).1, c5, hp b hb, ev_bnd, nI_1]
    by_cases k5 : bK B b = 5
    · have g64 := h.2.2.2.2.2.2 b hb k5
      have ce : (nI (P b) = nI (bG B b)) = (P b = bG B b) := nI_eqL (by omega) (by omega)
      rw [if_pos k5, hg b hb k5]
      simp only [ce]
      by_cases e : P b = bG B b
      · rw [if_pos e]
        exact ih (b + 1) n kc (by omega) (by omega) (fun c hc => by rw [h3 c hc, nx, show awA B P b = false by unfold awA; simp [e]]; simp)
      · obtain ⟨kc', e1, e2⟩ := m_sweep h hP hr hp hg ho hb k5 h3
        rw [if_neg e, ev_b _ e1]
        exact ih (b + 1) n kc' (by omega) (by omega) (fun c hc => by rw [e2 c hc, nx, show awA B P b = true by unfold awA; simp [k5, e]]; simp)
    · rw [if_neg k5]
      exact ih (b + 1) n kc (by omega) (by omega) (fun c hc => by rw [h3 c hc, nx, show awA B P b = false by unfold awA; simp [k5]]; simp)
theorem m_lowL100 {B : Bas} {P : Nat → Nat} {kc : Nat → Int32} (h : basOk B) (hk : ∀ c, c < bn B → kc c = bI (lwA B P c)) : ∀ (r b n : Nat), b + r = bn B → r < n → f_BargeBasinModel_low_L100 (nI (bn B)) kc n (nI (nmF (lwA B P) b)) (nI b) = some (nI (nmF (lwA B P) (bn B))) := by
  have n12 := h.2.2.2.2.1
  intro r
  induction r with
  | zero =>
    intro b n h1 h2
    obtain ⟨n, rfl⟩ : ∃ z, n = z + 1 := ⟨n - 1, by omega⟩
    have e : b = bn B := by omega
    subst e
    rw [f_BargeBasinModel_low_L100, if_pos (nI_le (Nat.le_refl _) (by omega))]
  | succ r ih =>
    intro b n h1 h2
    obtain ⟨n, rfl⟩ : ∃ z, n = z + 1 := ⟨n - 1, by omega⟩
    have hb : b < bn B := by omega
    have i := ih (b + 1) n (by omega) (by omega)
    rw [f_BargeBasinModel_low_L100, if_neg (nI_ge hb (by omega)), ev_grdN _ (show b < 12 by omega) (by decide), cl_nI (show b < 12 by omega), hk b hb]
    simp only [ev_bnd, nI_1]
    rw [← i]
    show _ = f_BargeBasinModel_low_L100 (nI (bn B)) kc n (nI (nmF (lwA B P) b + (if lwA B P b then 1 else 0))) (nI (b + 1))
    cases lwA B P b with
    | false =>
      rw [if_pos (show bI false = 0 by decide)]
      show f_BargeBasinModel_low_L100 (nI (bn B)) kc n (nI _ + nI 0) _ = _
      rw [nI_add]; rfl
    | true => rw [if_neg (show ¬ bI true = 0 by decide)]; rfl
theorem m_low {B : Bas} {P : Nat → Nat} {khas kw kh kn : Int32} {kwl kk kat ks ky kg : Nat → Int32} (h : basOk B) (hP : stC B P) (hr : rfX B P khas kw kh kn kwl kk kat ks ky kg) (st th : Int32) (kwho khe kc : Nat → Int32) : ∃ (kwho' khe' kc' : Nat → Int32), f_BargeBasinModel_low st th khas kn kk kat ks ky kg kwho khe kc = some (nI (nmF (lwA B P) (bn B)), 0, 0, kwho', khe', kc') := by
  obtain ⟨r1, r2, r3, r4, r5, r6, r7, r8⟩ := hr
  subst r1; subst r4
  have n12 := h.2.2.2.2.1
  obtain ⟨kw1, kh1, e1, o1, p1⟩ := m_layAllB h hP.1.1 r6 r7 kwho khe
  obtain ⟨k1, e2, o2⟩ := m_lowL29 n12 (bn B) 0 jN kc (by omega) (by show bn B < 2000000; omega) (fun c hc => by omega)
  obtain ⟨k2, e3, o3⟩ := m_lowL52 h hP r6 r7 r8 o1 (bn B) 0 jN k1 (by omega) (by show bn B < 2000000; omega) (fun c hc => by rw [o2 c hc]; rfl)
  have e4 := m_lowL100 h o3 (bn B) 0 jN (by omega) (by show bn B < 2000000; omega)
  refine ⟨kw1, kh1, k2, ?_⟩
  unfold f_BargeBasinModel_low
  rw [if_neg (show ¬ (1 : Int32) = 0 by decide), ev_b _ e1, un2_ap, ev_b (x := f_BargeBasinModel_low_L29 (nI (bn B)) jN 0 kc) _ e2, ev_b (x := f_BargeBasinModel_low_L52 (nI (bn B)) kk kat ks ky kg kw1 jN 0 k1) _ e3, ev_b (x := f_BargeBasinModel_low_L100 (nI (bn B)) k2 jN 0 0) _ e4]
theorem eq_low {B : Bas} {P : Nat → Nat} {cw chh cn : Int32} {cwl ct : Int64} {ck cp cl cg ca cwd chg : Nat → Int32} {cs : Nat → Int64} {khas kw kh kn : Int32} {kwl kk kat ks ky kg : Nat → Int32} (h : basOk B) (hP : stC B P) (hc : chX B P cw chh cn cwl ct ck cp cl cg ca cwd chg cs) (hr : rfX B P khas kw kh kn kwl kk kat ks ky kg) (st st2 th : Int32) (kwho khe kc : Nat → Int32) :
    ∃ (ans st' : Int32) (kwho' khe' kc' : Nat → Int32), f_BargeBasin_low st cw cn ck cp cg ca cs = some (ans, st') ∧ f_BargeBasinModel_low st2 th khas kn kk kat ks ky kg kwho khe kc = some (ans, st', 0, kwho', khe', kc') := by
  obtain ⟨a, b, c, e⟩ := m_low h hP hr st2 th kwho khe kc
  exact ⟨_, _, a, b, c, s_low h hP hc st, e⟩
