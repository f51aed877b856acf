/-! fewest, fewestSteps, all, must, reach, far, go of the reference, where there is a basin: printed by gen78.py. -/
theorem m_fewest {B : Bas} {P : Nat → Nat} {kwl kk kat ks ky kg : Nat → Int32} (h : basOk B) (hP : stC B P) (hr : rfB B kk ks ky) (hwl : rfW B kwl) (hp : chP B P kat) (hg : chG B kg) (st0 th0 khp kpm sn0 ed0 : Int32) (pb pw ps kpl khd kch kdp kpr kbb kby kbs kfe ked keb kwho kh : Nat → Int32) :
    ∃ (ans st khp' kpm' sn' ed' : Int32) (pb' pw' ps' kpl' khd' kch' kdp' kpr' kbb' kby' kbs' kfe' ked' keb' kwho' kh' : Nat → Int32) (new : Option (List Nat)), f_BargeBasinModel_fewest st0 th0 1 (nI (bw B)) (nI (bh B)) (nI (bn B)) khp kpm sn0 ed0 kwl kk kat ks ky kg pb pw ps kpl khd kch kdp kpr kbb kby kbs kfe ked keb kwho kh = some (ans, st, 0, khp', kpm', sn', ed', pb', pw', ps', kpl', khd', kch', kdp', kpr', kbb', kby', kbs', kfe', ked', keb', kwho', kh') ∧
      plX B 7 P ans st new ∧ (new = none → khp' = khp ∧ kpm' = kpm ∧ pb' = pb ∧ pw' = pw ∧ ps' = ps) ∧ (∀ cs, new = some cs → khp' = 1 ∧ kpm' = nI cs.length ∧ cs.length ≤ 6000 ∧ plW cs pb' pw' ps') := by
  obtain ⟨ans, st, khp', kpm', sn', ed', pb', pw', ps', b1, b2, b3, b4, b5, b6, b7, b8, b9, b10, b11, b12, b13, new, e, q⟩ := m_plan (sg := false) h hP hr hwl hp hg rfl khp kpm sn0 ed0 pb pw ps kpl khd kch kdp kpr kbb kby kbs kfe ked keb kwho kh
  rw [show bI false = (0 : Int32) from rfl] at e
  refine ⟨ans, st, khp', kpm', sn', ed', pb', pw', ps', b1, b2, b3, b4, b5, b6, b7, b8, b9, b10, b11, b12, b13, new, ?_, q⟩
  unfold f_BargeBasinModel_fewest
  rw [if_neg (show ¬ (1 : Int32) = 0 by decide), ev_b _ e, un22_ap]
theorem m_fewestSteps {B : Bas} {P : Nat → Nat} {kwl kk kat ks ky kg : Nat → Int32} (h : basOk B) (hP : stC B P) (hr : rfB B kk ks ky) (hwl : rfW B kwl) (hp : chP B P kat) (hg : chG B kg) (st0 th0 khp kpm sn0 ed0 : Int32) (pb pw ps kpl khd kch kdp kpr kbb kby kbs kfe ked keb kwho kh : Nat → Int32) :
    ∃ (ans st khp' kpm' sn' ed' : Int32) (pb' pw' ps' kpl' khd' kch' kdp' kpr' kbb' kby' kbs' kfe' ked' keb' kwho' kh' : Nat → Int32) (new : Option (List Nat)), f_BargeBasinModel_fewestSteps st0 th0 1 (nI (bw B)) (nI (bh B)) (nI (bn B)) khp kpm sn0 ed0 kwl kk kat ks ky kg pb pw ps kpl khd kch kdp kpr kbb kby kbs kfe ked keb kwho kh = some (ans, st, 0, khp', kpm', sn', ed', pb', pw', ps', kpl', khd', kch', kdp', kpr', kbb', kby', kbs', kfe', ked', keb', kwho', kh') ∧
      plX B 1 P ans st new ∧ (new = none → khp' = khp ∧ kpm' = kpm ∧ pb' = pb ∧ pw' = pw ∧ ps' = ps) ∧ (∀ cs, new = some cs → khp' = 1 ∧ kpm' = nI cs.length ∧ cs.length ≤ 6000 ∧ plW cs pb' pw' ps') := by
  obtain ⟨ans, st, khp', kpm', sn', ed', pb', pw', ps', b1, b2, b3, b4, b5, b6, b7, b8, b9, b10, b11, b12, b13, new, e, q⟩ := m_plan (sg := true) h hP hr hwl hp hg rfl khp kpm sn0 ed0 pb pw ps kpl khd kch kdp kpr kbb kby kbs kfe ked keb kwho kh
  rw [show bI true = (1 : Int32) from rfl] at e
  refine ⟨ans, st, khp', kpm', sn', ed', pb', pw', ps', b1, b2, b3, b4, b5, b6, b7, b8, b9, b10, b11, b12, b13, new, ?_, q⟩
  unfold f_BargeBasinModel_fewestSteps
  rw [if_neg (show ¬ (1 : Int32) = 0 by decide), ev_b _ e, un22_ap]
theorem m_all {B : Bas} {P : Nat → Nat} {kwl kk kat ks ky kg : Nat → Int32} (h : basOk B) (hP : stC B P) (hr : rfB B kk ks ky) (hwl : rfW B kwl) (hp : chP B P kat) (hg : chG B kg) (st0 th0 sn0 ed0 : Int32) (kpl khd kch kdp kpr kbb kby kbs kfe ked keb : Nat → Int32) (kc : Nat → Int64) (kwho kh : Nat → Int32) :
    ∃ (ans : Int64) (st sn' ed' : Int32) (kpl' khd' kch' kdp' kpr' kbb' kby' kbs' kfe' ked' keb' : Nat → Int32) (kc' : Nat → Int64) (kwho' kh' : Nat → Int32), f_BargeBasinModel_all st0 th0 1 (nI (bw B)) (nI (bh B)) (nI (bn B)) sn0 ed0 kwl kk kat ks ky kg kpl khd kch kdp kpr kbb kby kbs kfe ked keb kc kwho kh = some (ans, st, 0, sn', ed', kpl', khd', kch', kdp', kpr', kbb', kby', kbs', kfe', ked', keb', kc', kwho', kh') ∧ allX B P ans st := by
  obtain ⟨n, sn', ed', b1, b2, b3, b4, b5, b6, b7, b8, b9, b10, b11, kc', b12, b13, e, w⟩ := m_ways (but := none) h hP hr hwl hp hg (fun b hb => by cases hb) sn0 ed0 kpl khd kch kdp kpr kbb kby kbs kfe ked keb kc kwho kh
  unfold f_BargeBasinModel_all
  rw [if_neg (show ¬ (1 : Int32) = 0 by decide), ev_b _ (show f_BargeBasinModel_ways (-1) (nI (bw B)) (nI (bh B)) (nI (bn B)) sn0 ed0 kwl kk kat ks ky kg kpl khd kch kdp kpr kbb kby kbs kfe ked keb kc kwho kh = _ from e), un17_ap]
  simp only [cmpGE, cmpL]
  by_cases c : n < 0
  · rw [if_neg (fun z => z c)]
    exact ⟨-1, (-n).toInt32, sn', ed', b1, b2, b3, b4, b5, b6, b7, b8, b9, b10, b11, kc', b12, b13, rfl, n, w, Or.inl ⟨c, rfl, rfl⟩⟩
  · rw [if_pos c]
    by_cases d : n < 4611686018427387904
    · rw [if_pos d]
      exact ⟨n, 0, sn', ed', b1, b2, b3, b4, b5, b6, b7, b8, b9, b10, b11, kc', b12, b13, rfl, n, w, Or.inr (Or.inl ⟨c, d, rfl, rfl⟩)⟩
    · rw [if_neg d]
      exact ⟨-1, 10, sn', ed', b1, b2, b3, b4, b5, b6, b7, b8, b9, b10, b11, kc', b12, b13, rfl, n, w, Or.inr (Or.inr ⟨c, d, rfl, rfl⟩)⟩
theorem m_must {B : Bas} {P : Nat → Nat} {b : Nat} {kwl kk kat ks ky kg : Nat → Int32} (h : basOk B) (hP : stC B P) (hr : rfB B kk ks ky) (hwl : rfW B kwl) (hp : chP B P kat) (hg : chG B kg) (hb : b < bn B) (st0 th0 sn0 ed0 : Int32) (kpl khd kch kdp kpr kbb kby kbs kfe ked keb : Nat → Int32) (kc : Nat → Int64) (kwho kh : Nat → Int32) :
    ∃ (ans st sn' ed' : Int32) (kpl' khd' kch' kdp' kpr' kbb' kby' kbs' kfe' ked' keb' : Nat → Int32) (kc' : Nat → Int64) (kwho' kh' : Nat → Int32), f_BargeBasinModel_must (nI b) st0 th0 1 (nI (bw B)) (nI (bh B)) (nI (bn B)) sn0 ed0 kwl kk kat ks ky kg kpl khd kch kdp kpr kbb kby kbs kfe ked keb kc kwho kh = some (ans, st, 0, sn', ed', kpl', khd', kch', kdp', kpr', kbb', kby', kbs', kfe', ked', keb', kc', kwho', kh') ∧ mustX B b P ans st := by
  have n12 := h.2.2.2.2.1
  obtain ⟨n, sn', ed', b1, b2, b3, b4, b5, b6, b7, b8, b9, b10, b11, kc', b12, b13, e, w⟩ := m_ways (but := some b) h hP hr hwl hp hg (fun c hc => by cases hc; omega) sn0 ed0 kpl khd kch kdp kpr kbb kby kbs kfe ked keb kc kwho kh
  unfold f_BargeBasinModel_must
  rw [if_neg (show ¬ (1 : Int32) = 0 by decide), if_neg (nI_pos (by omega)), if_pos (nI_lt hb (by omega)), ev_b _ (show f_BargeBasinModel_ways (nI b) (nI (bw B)) (nI (bh B)) (nI (bn B)) sn0 ed0 kwl kk kat ks ky kg kpl khd kch kdp kpr kbb kby kbs kfe ked keb kc kwho kh = _ from e), un17_ap]
  simp only [cmpGE, cmpE]
  by_cases c : n < 0
  · rw [if_neg (fun z => z c)]
    exact ⟨-1, (-n).toInt32, sn', ed', b1, b2, b3, b4, b5, b6, b7, b8, b9, b10, b11, kc', b12, b13, rfl, n, w, Or.inl ⟨c, rfl, rfl⟩⟩
  · rw [if_pos c]
    by_cases d : n = 0
    · rw [if_pos d]
      exact ⟨1, 0, sn', ed', b1, b2, b3, b4, b5, b6, b7, b8, b9, b10, b11, kc', b12, b13, rfl, n, w, Or.inr (Or.inl ⟨c, d, rfl, rfl⟩)⟩
    · rw [if_neg d]
      exact ⟨0, 0, sn', ed', b1, b2, b3, b4, b5, b6, b7, b8, b9, b10, b11, kc', b12, b13, rfl, n, w, Or.inr (Or.inr ⟨c, d, rfl, rfl⟩)⟩
theorem m_reach {B : Bas} {P : Nat → Nat} {kwl kk kat ks ky : Nat → Int32} (h : basOk B) (hP : stC B P) (hr : rfB B kk ks ky) (hwl : rfW B kwl) (hp : chP B P kat) (st0 th0 sn0 ed0 : Int32) (kpl khd kch kdp kpr kbb kby kbs kfe ked keb kwho kh : Nat → Int32) :
    ∃ (ans st sn' ed' : Int32) (kpl' khd' kch' kdp' kpr' kbb' kby' kbs' kfe' ked' keb' kwho' kh' : Nat → Int32), f_BargeBasinModel_reach st0 th0 1 (nI (bw B)) (nI (bh B)) (nI (bn B)) sn0 ed0 kwl kk kat ks ky kpl khd kch kdp kpr kbb kby kbs kfe ked keb kwho kh = some (ans, st, 0, sn', ed', kpl', khd', kch', kdp', kpr', kbb', kby', kbs', kfe', ked', keb', kwho', kh') ∧ reachX B P ans st := by
  obtain ⟨well, sn', ed', b1, b2, b3, b4, b5, b6, b7, b8, b9, b10, b11, b12, b13, f1, f2, f3⟩ := m_looksAtAll (sg := false) h hP hr hwl hp rfl sn0 ed0 kpl khd kch kdp kpr kbb kby kbs kfe ked keb kwho kh
  rw [show bI false = (0 : Int32) from rfl] at f1
  unfold f_BargeBasinModel_reach
  rw [if_neg (show ¬ (1 : Int32) = 0 by decide), ev_b _ f1, un16_ap]
  cases well with
  | false =>
    rw [if_pos (show bI false = 0 by decide)]
    exact ⟨-1, 10, sn', ed', b1, b2, b3, b4, b5, b6, b7, b8, b9, b10, b11, b12, b13, rfl, Or.inr ⟨f3 rfl, rfl, rfl⟩⟩
  | true =>
    obtain ⟨g1, g2, -⟩ := f2 rfl
    rw [if_neg (show ¬ bI true = 0 by decide)]
    exact ⟨sn', 0, sn', ed', b1, b2, b3, b4, b5, b6, b7, b8, b9, b10, b11, b12, b13, rfl, Or.inl ⟨g1, g2, rfl⟩⟩
theorem hd_val {B : Bas} {P : Nat → Nat} {s : Int32} {kf kpl : Nat → Int32} (x : hdX B P s kf kpl) : ((s < 0 ∧ farX B P (-1) (-s) ∧ ¬ -s = 0) ∨ ∃ b k, (FL B 7 P).length ≤ 6000 ∧ b < (FL B 7 P).length ∧ bstX B P b k ∧ s = nI b ∧ kf b = nI k ∧ rP B (FL B 7 P) kpl) := by
  rcases x with ⟨x1, x2⟩ | ⟨x1, x2, x3⟩ | ⟨x1, D, b, d1, d2, d3, d4, d5⟩
  · subst x2; exact Or.inl ⟨by decide, Or.inl ⟨x1, rfl, rfl⟩, by decide⟩
  · subst x3; exact Or.inl ⟨by decide, Or.inr (Or.inl ⟨x1, x2, rfl, rfl⟩), by decide⟩
  · have l := bestO_lt d2
    exact Or.inr ⟨b, dvO D b, x1, l.1, ⟨D, d1, d2, some_dv l.2⟩, d3, by rw [d4 b l.1, some_dv l.2]; rfl, d5⟩
theorem m_far {B : Bas} {P : Nat → Nat} {kwl kk kat ks ky kg : Nat → Int32} (h : basOk B) (hP : stC B P) (hr : rfB B kk ks ky) (hwl : rfW B kwl) (hp : chP B P kat) (hg : chG B kg) (st0 th0 sn0 ed0 : Int32) (kpl khd kch kdp kpr kbb kby kbs kf kfe ked keb kwho kh : Nat → Int32) :
    ∃ (ans st sn' ed' : Int32) (kpl' khd' kch' kdp' kpr' kbb' kby' kbs' kf' kfe' ked' keb' kwho' kh' : Nat → Int32), f_BargeBasinModel_far st0 th0 1 (nI (bw B)) (nI (bh B)) (nI (bn B)) sn0 ed0 kwl kk kat ks ky kg kpl khd kch kdp kpr kbb kby kbs kf kfe ked keb kwho kh = some (ans, st, 0, sn', ed', kpl', khd', kch', kdp', kpr', kbb', kby', kbs', kf', kfe', ked', keb', kwho', kh') ∧ farX B P ans st := by
  obtain ⟨s, sn', ed', b1, b2, b3, b4, b5, b6, b7, b8, b9, b10, b11, b12, b13, b14, e, x⟩ := m_hardest h hP hr hwl hp hg sn0 ed0 kpl khd kch kdp kpr kbb kby kbs kf kfe ked keb kwho kh
  unfold f_BargeBasinModel_far
  rw [if_neg (show ¬ (1 : Int32) = 0 by decide), ev_b _ e, un17_ap]
  rcases hd_val x with ⟨y1, y2, y3⟩ | ⟨b, k, y1, y2, y3, y4, y5, -⟩
  · rw [if_neg (fun z => by rw [Int32.le_iff_toInt_le] at z; rw [Int32.lt_iff_toInt_lt] at y1; omega)]
    exact ⟨-1, -s, sn', ed', b1, b2, b3, b4, b5, b6, b7, b8, b9, b10, b11, b12, b13, b14, rfl, y2⟩
  · subst y4
    rw [if_pos (nI_pos' (by omega)), ev_grdN _ (show b < 6001 by omega) (by decide), nI_clamp (by omega), y5]
    exact ⟨nI k, 0, sn', ed', b1, b2, b3, b4, b5, b6, b7, b8, b9, b10, b11, b12, b13, b14, rfl, Or.inr (Or.inr ⟨y1, b, k, y3, rfl, rfl⟩)⟩
theorem m_goL41 {B : Bas} {L : List (Nat → Nat)} {i : Nat} {kpl : Nat → Int32} (h : basOk B) (hp : rP B L kpl) (hi : i < L.length) (hl : L.length ≤ 6000) : ∀ (r b n : Nat) (ka : Nat → Int32), b + r = bn B → r < n → (∀ c, c < b → ka c = nI (gt L i c)) → ∃ ka', f_BargeBasinModel_go_L41 (nI i) (nI (bn B)) kpl n (nI b) ka = some ka' ∧ chP B (gt L i) ka' := by
  have n12 := h.2.2.2.2.1
  intro r
  induction r with
  | zero =>
    intro b n ka h1 h2 h3
    obtain ⟨n, rfl⟩ : ∃ z, n = z + 1 := ⟨n - 1, by omega⟩
    exact ⟨ka, by rw [f_BargeBasinModel_go_L41, if_pos (nI_le (by omega) (by omega))], fun c hc => h3 c (by omega)⟩
  | succ r ih =>
    intro b n ka h1 h2 h3
    obtain ⟨n, rfl⟩ : ∃ z, n = z + 1 := ⟨n - 1, by omega⟩
    have pv := hp i hi b (by omega)
    rw [← gt_at hi] at pv
    rw [f_BargeBasinModel_go_L41, if_neg (nI_ge (by omega) (by omega)), idx12, ev_grdN _ (show 12 * i + b < 72012 by omega) (by decide), ev_bnd, ev_grdN _ (show b < 12 by omega) (by decide), ev_bnd, nI_1, nI_clamp (show 12 * i + b < 2 ^ 31 by omega), cl_nI (show b < 12 by omega), pv]
    refine ih (b + 1) n _ (by omega) (by omega) (fun c hc => ?_)
    by_cases z : c = b
    · subst z; exact pk_us
    · rw [pk_un z]; exact h3 c (by omega)
theorem m_go {B : Bas} {P : Nat → Nat} {kwl kk kat ks ky kg : Nat → Int32} (h : basOk B) (hP : stC B P) (hr : rfB B kk ks ky) (hwl : rfW B kwl) (hp : chP B P kat) (hg : chG B kg) (st0 th0 um rm sn0 ed0 : Int32) (kpl khd kch kdp kpr kbb kby kbs kf kfe ked keb kwho kh : Nat → Int32) :
    ∃ (ans st um' rm' sn' ed' : Int32) (kat' kpl' khd' kch' kdp' kpr' kbb' kby' kbs' kf' kfe' ked' keb' kwho' kh' : Nat → Int32), f_BargeBasinModel_go st0 th0 1 (nI (bw B)) (nI (bh B)) (nI (bn B)) um rm sn0 ed0 kwl kk kat ks ky kg kpl khd kch kdp kpr kbb kby kbs kf kfe ked keb kwho kh = some (ans, st, 0, um', rm', sn', ed', kat', kpl', khd', kch', kdp', kpr', kbb', kby', kbs', kf', kfe', ked', keb', kwho', kh') ∧
      ((∃ st0, farX B P (-1) st0 ∧ st0 ≠ 0 ∧ ans = 0 ∧ st = st0 ∧ kat' = kat ∧ um' = um ∧ rm' = rm) ∨ ((FL B 7 P).length ≤ 6000 ∧ ∃ b k, bstX B P b k ∧ ans = 1 ∧ st = 0 ∧ um' = 0 ∧ rm' = 0 ∧ chP B (gt (FL B 7 P) b) kat')) := by
  obtain ⟨s, sn', ed', b1, b2, b3, b4, b5, b6, b7, b8, b9, b10, b11, b12, b13, b14, e, x⟩ := m_hardest h hP hr hwl hp hg sn0 ed0 kpl khd kch kdp kpr kbb kby kbs kf kfe ked keb kwho kh
  unfold f_BargeBasinModel_go
  rw [if_neg (show ¬ (1 : Int32) = 0 by decide), ev_b _ e, un17_ap]
  rcases hd_val x with ⟨y1, y2, y3⟩ | ⟨b, k, y1, y2, y3, y4, y5, y6⟩
  · rw [if_neg (fun z => by rw [Int32.le_iff_toInt_le] at z; rw [Int32.lt_iff_toInt_lt] at y1; omega)]
    exact ⟨0, -s, um, rm, sn', ed', kat, b1, b2, b3, b4, b5, b6, b7, b8, b9, b10, b11, b12, b13, b14, rfl, Or.inl ⟨-s, y2, y3, rfl, rfl, rfl, rfl, rfl⟩⟩
  · subst y4
    obtain ⟨ka', e2, c2⟩ := m_goL41 h y6 y2 y1 (bn B) 0 jN kat (by omega) (by have := h.2.2.2.2.1; show bn B < 2000000; omega) (fun c hc => by omega)
    rw [nI_0] at e2
    rw [if_pos (nI_pos' (by omega)), ev_b _ e2]
    exact ⟨1, 0, 0, 0, sn', ed', ka', b1, b2, b3, b4, b5, b6, b7, b8, b9, b10, b11, b12, b13, b14, rfl, Or.inr ⟨y1, b, k, y3, rfl, rfl, rfl, rfl, c2⟩⟩
