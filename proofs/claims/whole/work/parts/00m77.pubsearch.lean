/-! all, must, reach, far, go of the class, where there is a basin: printed by gen77.py. -/
def allX (B : Bas) (P : Nat → Nat) (ans : Int64) (st : Int32) : Prop := ∃ n, wyX B none P n ∧ ((n < 0 ∧ ans = -1 ∧ st = (-n).toInt32) ∨ (¬ n < 0 ∧ n < 4611686018427387904 ∧ ans = n ∧ st = 0) ∨ (¬ n < 0 ∧ ¬ n < 4611686018427387904 ∧ ans = -1 ∧ st = 10))
def mustX (B : Bas) (b : Nat) (P : Nat → Nat) (ans st : Int32) : Prop := ∃ n, wyX B (some b) P n ∧ ((n < 0 ∧ ans = -1 ∧ st = (-n).toInt32) ∨ (¬ n < 0 ∧ n = 0 ∧ ans = 1 ∧ st = 0) ∨ (¬ n < 0 ∧ ¬ n = 0 ∧ ans = 0 ∧ st = 0))
def reachX (B : Bas) (P : Nat → Nat) (ans st : Int32) : Prop := ((FL B 7 P).length ≤ 6000 ∧ ans = nI (FL B 7 P).length ∧ st = 0) ∨ (6000 < (FL B 7 P).length ∧ ans = -1 ∧ st = 10)
/-- the hardest stand, and how far it is -/
def bstX (B : Bas) (P : Nat → Nat) (b k : Nat) : Prop := ∃ D, distOk (FL B 7 P).length (edL B (FL B 7 P) 7) (frL B (FL B 7 P)) D ∧ bestO D (FL B 7 P).length = some b ∧ D b = some k
def noFr (B : Bas) (P : Nat → Nat) : Prop := ∀ v, v < (FL B 7 P).length → frL B (FL B 7 P) v = false
def farX (B : Bas) (P : Nat → Nat) (ans st : Int32) : Prop := (6000 < (FL B 7 P).length ∧ ans = -1 ∧ st = 10) ∨ ((FL B 7 P).length ≤ 6000 ∧ noFr B P ∧ ans = -1 ∧ st = 11) ∨ ((FL B 7 P).length ≤ 6000 ∧ ∃ b k, bstX B P b k ∧ ans = nI k ∧ st = 0)
theorem bst_none {B : Bas} {P : Nat → Nat} {D : Nat → Option Nat} (hd : distOk (FL B 7 P).length (edL B (FL B 7 P) 7) (frL B (FL B 7 P)) D) : bestO D (FL B 7 P).length = none ↔ noFr B P := by
  rw [bestO_none]
  constructor
  · intro h v hv
    rw [← Bool.not_eq_true]
    intro z
    have := (hd.1 v hv).mpr z
    rw [h v hv] at this; cases this
  · intro h v hv
    cases e : D v with
    | none => rfl
    | some d =>
      obtain ⟨a, a1, a2⟩ := lvD_all hd.2.1 d v hv e 0 (Nat.zero_le _)
      have := (hd.1 a a1).mp a2
      rw [h a a1] at this; cases this
theorem bst_u {B : Bas} {P : Nat → Nat} {b k b' k' : Nat} (h1 : bstX B P b k) (h2 : bstX B P b' k') : b = b' ∧ k = k' := by
  obtain ⟨D, d1, d2, d3⟩ := h1
  obtain ⟨E, e1, e2, e3⟩ := h2
  have eq : ∀ u, u ≤ (FL B 7 P).length → bestO D u = bestO E u := by
    intro u
    induction u with
    | zero => intro _; rfl
    | succ u ih =>
      intro hu
      have a := dist_uniq d1 e1 (show u < (FL B 7 P).length by omega)
      have bs : ∀ D : Nat → Option Nat, bestO D (u + 1) = (match D u, bestO D u with
        | none, b => b
        | some _, none => some u
        | some k, some b => if dvO D b < k then some u else some b) := fun _ => rfl
      rw [bs D, bs E, a, ih (by omega)]
      cases E u with
      | none => rfl
      | some k =>
        cases x : bestO E u with
        | none => rfl
        | some b =>
          have := (bestO_lt x).1
          have z : dvO D b = dvO E b := by
            unfold dvO
            rw [dist_uniq d1 e1 (show b < (FL B 7 P).length by omega)]
          show (if dvO D b < k then some u else some b) = (if dvO E b < k then some u else some b)
          rw [z]
  have b1 := eq _ (Nat.le_refl _)
  rw [d2, e2] at b1
  cases b1
  have := dist_uniq d1 e1 (bestO_lt d2).1
  rw [d3, e3] at this
  cases this
  exact ⟨rfl, rfl⟩
theorem s_core3 {B : Bas} {P : Nat → Nat} {but : Option Nat} {k : Nat} {D : Nat → Option Nat} {f w hh n : Int32} {wl : Int64} {kk g a wd hg : Nat → Int32} {s lo hi : Nat → Int64} {sl fo di : Nat → Int32} (h : basOk B) (sx : srX B P 7 D f w hh n wl kk g a wd hg s lo hi sl fo di) (hk : isD B 7 P k) (hbut : ∀ b, but = some b → b < 12) (qd : Int32) (t : Int64) (p mv qu : Nat → Int32) (wy : Nat → Int64) :
    ∃ qd' t' p' mv' qu' wy', f_Search_plansWithout (oI but) f qd w hh n wl t kk p a wd hg s lo hi sl mv di qu wy = some (lN (capM (cntS B but k P)), qd', t', p', mv', qu', wy') := by
  obtain ⟨x1, x2, x3, x4, x5, x6, x7, x8, x9, x10, x11, x12⟩ := sx
  subst x5; subst x7; subst x8; subst x9
  obtain ⟨z0, z1⟩ := FL_0 (B := B) (most := 7) (P := P)
  obtain ⟨aD, bD⟩ := srX_isD (Or.inr rfl) x1 x2
  obtain ⟨qd', t', p', mv', qu', wy', e⟩ := s_plansWithout h x6 x11 x10 (clsd_7 x1 7 (Or.inr rfl)) aD x3 x4 hbut z0 (by rw [z1]; exact hk) qd t p mv qu wy
  rw [z1] at e
  exact ⟨qd', t', p', mv', qu', wy', e⟩
theorem capN (x : Nat) : ¬ lN (capM x) < 0 := by
  intro z
  have := capM_le x
  have := (pk_lLT (show capM x < 2 ^ 63 by omega) (show 0 < 2 ^ 63 by decide)).mp z
  omega
theorem s_all_11 {B : Bas} {P : Nat → Nat} {cw chh cn : Int32} {cwl ct : Int64} {ck cp cl cg ca cwd chg : Nat → Int32} {cs : Nat → Int64} (h : basOk B) (hP : stC B P) (hc : chX B P cw chh cn cwl ct ck cp cl cg ca cwd chg cs) {found : Int32} {slots for1 : Nat → Int32} (hs : schI found slots for1) (qd sp w0 h0 n0 : Int32) (wl0 t0 : Int64) (k0 p0 l0 g0 a0 wd0 hg0 : Nat → Int32) (s0 low high : Nat → Int64) (mv di qu : Nat → Int32) (wy : Nat → Int64) (status : Int32) :
    ∃ (ans : Int64) (st : Int32) (f' qd' sp' w' h' n' : Int32) (wl' t' : Int64) (k' p' l' g' a' wd' hg' : Nat → Int32) (s' lo' hi' : Nat → Int64) (sl' fo' mv' di' qu' : Nat → Int32) (wy' : Nat → Int64), f_BargeBasin_all_search11 status cw chh cn cwl ct ck cp cl cg ca cwd chg cs found qd sp w0 h0 n0 wl0 t0 k0 p0 l0 g0 a0 wd0 hg0 s0 low high slots for1 mv di qu wy = some (ans, st, f', qd', sp', w', h', n', wl', t', k', p', l', g', a', wd', hg', s', lo', hi', sl', fo', mv', di', qu', wy') ∧ schI f' sl' fo' ∧ allX B P ans st := by
  obtain ⟨r, f', qd', sp', w', h', n', wl', t', k', p', l', g', a', wd', hg', s', lo', hi', sl', fo', mv', di', qu', e, sc, q⟩ := s_fault11 (sg := false) (all := false) h hP hc (most := 7) rfl hs qd sp w0 h0 n0 wl0 t0 k0 p0 l0 g0 a0 wd0 hg0 s0 low high mv di qu
  rw [show bI false = (0 : Int32) from rfl] at e
  unfold f_BargeBasin_all_search11
  rw [ev_b _ e, un24_ap]
  rcases q with ⟨q1, q2⟩ | ⟨D, sx, q2⟩
  · subst q2
    rw [if_neg (show ¬ (10 : Int32) = 0 by decide)]
    exact ⟨_, _, _, _, _, _, _, _, _, _, _, _, _, _, _, _, _, _, _, _, _, _, _, _, _,  _, rfl, sc, -10, Or.inl ⟨q1, rfl⟩, Or.inl ⟨by decide, rfl, rfl⟩⟩
  · rcases s_core (sg := false) rfl sx.1 sx.2.1 q2 with ⟨z1, z2⟩ | ⟨z1, k, z2, -⟩
    · subst z1
      rw [if_neg (show ¬ (11 : Int32) = 0 by decide)]
      refine ⟨_, _, _, _, _, _, _, _, _, _, _, _, _, _, _, _, _, _, _, _, _, _, _, _, _,  _, rfl, sc, -11, Or.inr (Or.inl ⟨sx.1, ?_, rfl⟩), Or.inl ⟨by decide, rfl, rfl⟩⟩
      rcases z2 with ⟨y, -⟩ | ⟨-, y, -⟩ | ⟨-, _, _, -, -, -, -, -, y⟩
      · have := sx.1; omega
      · exact y
      · cases y
    · subst z1
      obtain ⟨qd2, t2, p2, mv2, qu2, wy2, e2⟩ := s_core3 (but := none) h sx z2 (fun b hb => by cases hb) qd' t' p' mv' qu' wy
      rw [if_pos rfl, ev_b _ (show f_BargeBasin_searcher_search11 = some () from rfl), un0_ap, ev_b _ (show f_Search_plansWithout (-1) f' qd' w' h' n' wl' t' k' p' a' wd' hg' s' lo' hi' sl' mv' di' qu' wy = _ from e2), un7_ap]
      simp only [cmpL]
      by_cases c : lN (capM (cntS B none k P)) < 4611686018427387904
      · rw [if_pos c]
        exact ⟨_, _, _, _, _, _, _, _, _, _, _, _, _, _, _, _, _, _, _, _, _, _, _, _, _,  _, rfl, sc, _, Or.inr (Or.inr ⟨sx.1, k, z2, rfl⟩), Or.inr (Or.inl ⟨capN _, c, rfl, rfl⟩)⟩
      · rw [if_neg c]
        exact ⟨_, _, _, _, _, _, _, _, _, _, _, _, _, _, _, _, _, _, _, _, _, _, _, _, _,  _, rfl, sc, _, Or.inr (Or.inr ⟨sx.1, k, z2, rfl⟩), Or.inr (Or.inr ⟨capN _, c, rfl, rfl⟩)⟩
theorem s_must_11 {B : Bas} {P : Nat → Nat} {b : Nat} {cw chh cn : Int32} {cwl ct : Int64} {ck cp cl cg ca cwd chg : Nat → Int32} {cs : Nat → Int64} (h : basOk B) (hP : stC B P) (hc : chX B P cw chh cn cwl ct ck cp cl cg ca cwd chg cs) (hb : b < bn B) {found : Int32} {slots for1 : Nat → Int32} (hs : schI found slots for1) (qd sp w0 h0 n0 : Int32) (wl0 t0 : Int64) (k0 p0 l0 g0 a0 wd0 hg0 : Nat → Int32) (s0 low high : Nat → Int64) (mv di qu : Nat → Int32) (wy : Nat → Int64) (status : Int32) :
    ∃ (ans st : Int32) (f' qd' sp' w' h' n' : Int32) (wl' t' : Int64) (k' p' l' g' a' wd' hg' : Nat → Int32) (s' lo' hi' : Nat → Int64) (sl' fo' mv' di' qu' : Nat → Int32) (wy' : Nat → Int64), f_BargeBasin_must_search11 (nI b) status cw chh cn cwl ct ck cp cl cg ca cwd chg cs found qd sp w0 h0 n0 wl0 t0 k0 p0 l0 g0 a0 wd0 hg0 s0 low high slots for1 mv di qu wy = some (ans, st, f', qd', sp', w', h', n', wl', t', k', p', l', g', a', wd', hg', s', lo', hi', sl', fo', mv', di', qu', wy') ∧ schI f' sl' fo' ∧ mustX B b P ans st := by
  have b12 : b < 12 := by have := h.2.2.2.2.1; omega
  obtain ⟨r, f', qd', sp', w', h', n', wl', t', k', p', l', g', a', wd', hg', s', lo', hi', sl', fo', mv', di', qu', e, sc, q⟩ := s_fault11 (sg := false) (all := false) h hP hc (most := 7) rfl hs qd sp w0 h0 n0 wl0 t0 k0 p0 l0 g0 a0 wd0 hg0 s0 low high mv di qu
  rw [show bI false = (0 : Int32) from rfl] at e
  have fb : f_BargeBasin_faultOfBarge (nI b) cw cn = some 0 := by
    unfold f_BargeBasin_faultOfBarge
    rw [show f_BargeBasin_hasNoBasin cw = some 0 by rw [hc.1]; exact noBas h, ev_b _ rfl, if_pos rfl, if_neg (nI_pos (by omega)), hc.2.2.1, if_pos (nI_lt hb (by have := h.2.2.2.2.1; omega))]
  unfold f_BargeBasin_must_search11 f_BargeBasin_must_search11_J17
  rw [ev_b _ fb, if_pos rfl, ev_b _ e, un24_ap]
  rcases q with ⟨q1, q2⟩ | ⟨D, sx, q2⟩
  · subst q2
    rw [if_neg (show ¬ (10 : Int32) = 0 by decide)]
    exact ⟨_, _, _, _, _, _, _, _, _, _, _, _, _, _, _, _, _, _, _, _, _, _, _, _, _,  _, rfl, sc, -10, Or.inl ⟨q1, rfl⟩, Or.inl ⟨by decide, rfl, rfl⟩⟩
  · rcases s_core (sg := false) rfl sx.1 sx.2.1 q2 with ⟨z1, z2⟩ | ⟨z1, k, z2, -⟩
    · subst z1
      rw [if_neg (show ¬ (11 : Int32) = 0 by decide)]
      refine ⟨_, _, _, _, _, _, _, _, _, _, _, _, _, _, _, _, _, _, _, _, _, _, _, _, _,  _, rfl, sc, -11, Or.inr (Or.inl ⟨sx.1, ?_, rfl⟩), Or.inl ⟨by decide, rfl, rfl⟩⟩
      rcases z2 with ⟨y, -⟩ | ⟨-, y, -⟩ | ⟨-, _, _, -, -, -, -, -, y⟩
      · have := sx.1; omega
      · exact y
      · cases y
    · subst z1
      obtain ⟨qd2, t2, p2, mv2, qu2, wy2, e2⟩ := s_core3 (but := some b) h sx z2 (fun c hc => by cases hc; exact b12) qd' t' p' mv' qu' wy
      rw [if_pos rfl, ev_b _ (show f_BargeBasin_searcher_search11 = some () from rfl), un0_ap, ev_b _ (show f_Search_plansWithout (nI b) f' qd' w' h' n' wl' t' k' p' a' wd' hg' s' lo' hi' sl' mv' di' qu' wy = _ from e2), un7_ap]
      simp only [cmpE]
      by_cases c : lN (capM (cntS B (some b) k P)) = 0
      · rw [if_pos c]
        exact ⟨_, _, _, _, _, _, _, _, _, _, _, _, _, _, _, _, _, _, _, _, _, _, _, _, _,  _, rfl, sc, _, Or.inr (Or.inr ⟨sx.1, k, z2, rfl⟩), Or.inr (Or.inl ⟨capN _, c, rfl, rfl⟩)⟩
      · rw [if_neg c]
        exact ⟨_, _, _, _, _, _, _, _, _, _, _, _, _, _, _, _, _, _, _, _, _, _, _, _, _,  _, rfl, sc, _, Or.inr (Or.inr ⟨sx.1, k, z2, rfl⟩), Or.inr (Or.inr ⟨capN _, c, rfl, rfl⟩)⟩
theorem s_far_11 {B : Bas} {P : Nat → Nat} {cw chh cn : Int32} {cwl ct : Int64} {ck cp cl cg ca cwd chg : Nat → Int32} {cs : Nat → Int64} (h : basOk B) (hP : stC B P) (hc : chX B P cw chh cn cwl ct ck cp cl cg ca cwd chg cs) {found : Int32} {slots for1 : Nat → Int32} (hs : schI found slots for1) (qd sp w0 h0 n0 : Int32) (wl0 t0 : Int64) (k0 p0 l0 g0 a0 wd0 hg0 : Nat → Int32) (s0 low high : Nat → Int64) (mv di qu : Nat → Int32) (status : Int32) :
    ∃ (ans st : Int32) (f' qd' sp' w' h' n' : Int32) (wl' t' : Int64) (k' p' l' g' a' wd' hg' : Nat → Int32) (s' lo' hi' : Nat → Int64) (sl' fo' mv' di' qu' : Nat → Int32), f_BargeBasin_far_search11 status cw chh cn cwl ct ck cp cl cg ca cwd chg cs found qd sp w0 h0 n0 wl0 t0 k0 p0 l0 g0 a0 wd0 hg0 s0 low high slots for1 mv di qu = some (ans, st, f', qd', sp', w', h', n', wl', t', k', p', l', g', a', wd', hg', s', lo', hi', sl', fo', mv', di', qu') ∧ schI f' sl' fo' ∧ farX B P ans st := by
  obtain ⟨r, f', qd', sp', w', h', n', wl', t', k', p', l', g', a', wd', hg', s', lo', hi', sl', fo', mv', di', qu', e, sc, q⟩ := s_fault11 (sg := false) (all := true) h hP hc (most := 7) rfl hs qd sp w0 h0 n0 wl0 t0 k0 p0 l0 g0 a0 wd0 hg0 s0 low high mv di qu
  rw [show bI false = (0 : Int32) from rfl, show bI true = (1 : Int32) from rfl] at e
  unfold f_BargeBasin_far_search11
  rw [ev_b _ e, un24_ap]
  rcases q with ⟨q1, q2⟩ | ⟨D, sx, q2⟩
  · subst q2
    rw [if_neg (show ¬ (10 : Int32) = 0 by decide)]
    exact ⟨_, _, _, _, _, _, _, _, _, _, _, _, _, _, _, _, _, _, _, _, _, _, _, _, _,  rfl, sc, Or.inl ⟨q1, rfl, rfl⟩⟩
  · have sx' := sx
    obtain ⟨x1, x2, x3, x4, x5, x6, x7, x8, x9, x10, x11, x12⟩ := sx'
    cases eb : bestO D (FL B 7 P).length with
    | none =>
      have : r = 11 := by rw [q2]; simp [eb]
      subst this
      rw [if_neg (show ¬ (11 : Int32) = 0 by decide)]
      exact ⟨_, _, _, _, _, _, _, _, _, _, _, _, _, _, _, _, _, _, _, _, _, _, _, _, _,  rfl, sc, Or.inr (Or.inl ⟨x1, (bst_none x2).mp eb, rfl, rfl⟩)⟩
    | some b =>
      have : r = 0 := by rw [q2]; simp [eb]
      subst this
      have l := bestO_lt eb
      have ft := s_farthest x1 x3 (fun u k hu e => by have := x4 u k hu e; omega)
      rw [eb, show (some b).bind D = D b from rfl, some_dv l.2] at ft
      rw [← x5] at ft
      rw [if_pos rfl, ev_b _ (show f_BargeBasin_searcher_search11 = some () from rfl), un0_ap, ev_b _ ft]
      exact ⟨_, _, _, _, _, _, _, _, _, _, _, _, _, _, _, _, _, _, _, _, _, _, _, _, _,  rfl, sc, Or.inr (Or.inr ⟨x1, b, _, ⟨D, x2, eb, some_dv l.2⟩, rfl, rfl⟩)⟩
theorem s_go_11 {B : Bas} {P : Nat → Nat} {cw chh cn : Int32} {cwl ct : Int64} {ck cp cl cg ca cwd chg : Nat → Int32} {cs : Nat → Int64} (h : basOk B) (hP : stC B P) (hc : chX B P cw chh cn cwl ct ck cp cl cg ca cwd chg cs) {found : Int32} {slots for1 : Nat → Int32} (hs : schI found slots for1) (qd sp w0 h0 n0 : Int32) (wl0 t0 : Int64) (k0 p0 l0 g0 a0 wd0 hg0 : Nat → Int32) (s0 low high : Nat → Int64) (mv di qu : Nat → Int32) (status ld lu : Int32) :
    ∃ (ans st : Int32) (ct' : Int64) (cp' : Nat → Int32) (ld' lu' : Int32) (f' qd' sp' w' h' n' : Int32) (wl' t' : Int64) (k' p' l' g' a' wd' hg' : Nat → Int32) (s' lo' hi' : Nat → Int64) (sl' fo' mv' di' qu' : Nat → Int32), f_BargeBasin_go_search11 status cw chh cn cwl ct ck cp cl cg ca cwd chg cs ld lu found qd sp w0 h0 n0 wl0 t0 k0 p0 l0 g0 a0 wd0 hg0 s0 low high slots for1 mv di qu = some (ans, st, ct', cp', ld', lu', f', qd', sp', w', h', n', wl', t', k', p', l', g', a', wd', hg', s', lo', hi', sl', fo', mv', di', qu') ∧ schI f' sl' fo' ∧
      ((∃ st0, farX B P (-1) st0 ∧ st0 ≠ 0 ∧ ans = 0 ∧ st = st0 ∧ ct' = ct ∧ cp' = cp ∧ ld' = ld ∧ lu' = lu) ∨ ((FL B 7 P).length ≤ 6000 ∧ ∃ b k, bstX B P b k ∧ ans = 1 ∧ st = 0 ∧ ld' = 0 ∧ lu' = 0 ∧ chT B (gt (FL B 7 P) b) ct' ∧ chP B (gt (FL B 7 P) b) cp')) := by
  obtain ⟨r, f', qd', sp', w', h', n', wl', t', k', p', l', g', a', wd', hg', s', lo', hi', sl', fo', mv', di', qu', e, sc, q⟩ := s_fault11 (sg := false) (all := true) h hP hc (most := 7) rfl hs qd sp w0 h0 n0 wl0 t0 k0 p0 l0 g0 a0 wd0 hg0 s0 low high mv di qu
  rw [show bI false = (0 : Int32) from rfl, show bI true = (1 : Int32) from rfl] at e
  unfold f_BargeBasin_go_search11
  rw [ev_b _ e, un24_ap]
  rcases q with ⟨q1, q2⟩ | ⟨D, sx, q2⟩
  · subst q2
    rw [if_neg (show ¬ (10 : Int32) = 0 by decide)]
    exact ⟨_, _, _, _, _, _, _, _, _, _, _, _, _, _, _, _, _, _, _, _, _, _, _, _, _, _, _, _, _,  rfl, sc, Or.inl ⟨10, Or.inl ⟨q1, rfl, rfl⟩, by decide, rfl, rfl, rfl, rfl, rfl, rfl⟩⟩
  · have sx' := sx
    obtain ⟨x1, x2, x3, x4, x5, x6, x7, x8, x9, x10, x11, x12⟩ := sx'
    cases eb : bestO D (FL B 7 P).length with
    | none =>
      have : r = 11 := by rw [q2]; simp [eb]
      subst this
      rw [if_neg (show ¬ (11 : Int32) = 0 by decide)]
      exact ⟨_, _, _, _, _, _, _, _, _, _, _, _, _, _, _, _, _, _, _, _, _, _, _, _, _, _, _, _, _,  rfl, sc, Or.inl ⟨11, Or.inr (Or.inl ⟨x1, (bst_none x2).mp eb, rfl, rfl⟩), by decide, rfl, rfl, rfl, rfl, rfl, rfl⟩⟩
    | some b =>
      have : r = 0 := by rw [q2]; simp [eb]
      subst this
      have l := bestO_lt eb
      have hd := s_hardest x1 x3 (fun u k hu e => by have := x4 u k hu e; omega)
      rw [eb] at hd
      rw [← x5] at hd
      obtain ⟨o1, o2⟩ := x6.2.2.1 b l.1
      obtain ⟨ct2, cp2, e2, y1, y2⟩ := s_layOut h (x6.2.1 _ (List.getElem_mem l.1)) hc.2.2.2.2.2.1 l.1 x1 o1 o2 ct cp
      rw [← x5, ← hc.2.2.1] at e2
      rw [if_pos rfl, ev_b _ (show f_BargeBasin_searcher_search11 = some () from rfl), un0_ap, ev_b _ hd, ev_b _ (show f_Search_layOut (oI (some b)) f' lo' hi' cn ct cp cs = _ from e2), un2_ap]
      refine ⟨_, _, _, _, _, _, _, _, _, _, _, _, _, _, _, _, _, _, _, _, _, _, _, _, _, _, _, _, _,  rfl, sc, Or.inr ⟨x1, b, _, ⟨D, x2, eb, some_dv l.2⟩, rfl, rfl, rfl, rfl, ?_, ?_⟩⟩
      · rw [gt_at l.1]; exact y1
      · rw [gt_at l.1]; exact y2
theorem s_all_01 {B : Bas} {P : Nat → Nat} {cw chh cn : Int32} {cwl ct : Int64} {ck cp cl cg ca cwd chg : Nat → Int32} {cs : Nat → Int64} (h : basOk B) (hP : stC B P) (hc : chX B P cw chh cn cwl ct ck cp cl cg ca cwd chg cs) (status : Int32) :
    ∃ (ans : Int64) (st : Int32) (f' qd' sp' w' h' n' : Int32) (wl' t' : Int64) (k' p' l' g' a' wd' hg' : Nat → Int32) (s' lo' hi' : Nat → Int64) (sl' fo' mv' di' qu' : Nat → Int32) (wy' : Nat → Int64), f_BargeBasin_all_search01 status cw chh cn cwl ct ck cp cl cg ca cwd chg cs = some (ans, st, f', qd', sp', w', h', n', wl', t', k', p', l', g', a', wd', hg', s', lo', hi', sl', fo', mv', di', qu', wy') ∧ schI f' sl' fo' ∧ allX B P ans st := by
  obtain ⟨r, f', qd', sp', w', h', n', wl', t', k', p', l', g', a', wd', hg', s', lo', hi', sl', fo', mv', di', qu', e, sc, q⟩ := s_fault11 (sg := false) (all := false) h hP hc (most := 7) rfl schI_0 0 0 0 0 0 0 0 (fun _ => 0) (fun _ => 0) (fun _ => 0) (fun _ => 0) (fun _ => 0) (fun _ => 0) (fun _ => 0) (fun _ => 0) (fun _ => 0) (fun _ => 0) (fun _ => 0) (fun _ => 0) (fun _ => 0)
  rw [show bI false = (0 : Int32) from rfl] at e
  unfold f_BargeBasin_all_search01
  rw [s_fault01 (by rw [hc.1]; exact noBas h), ev_b _ e, un24_ap]
  rcases q with ⟨q1, q2⟩ | ⟨D, sx, q2⟩
  · subst q2
    rw [if_neg (show ¬ (10 : Int32) = 0 by decide)]
    exact ⟨_, _, _, _, _, _, _, _, _, _, _, _, _, _, _, _, _, _, _, _, _, _, _, _, _,  _, rfl, sc, -10, Or.inl ⟨q1, rfl⟩, Or.inl ⟨by decide, rfl, rfl⟩⟩
  · rcases s_core (sg := false) rfl sx.1 sx.2.1 q2 with ⟨z1, z2⟩ | ⟨z1, k, z2, -⟩
    · subst z1
      rw [if_neg (show ¬ (11 : Int32) = 0 by decide)]
      refine ⟨_, _, _, _, _, _, _, _, _, _, _, _, _, _, _, _, _, _, _, _, _, _, _, _, _,  _, rfl, sc, -11, Or.inr (Or.inl ⟨sx.1, ?_, rfl⟩), Or.inl ⟨by decide, rfl, rfl⟩⟩
      rcases z2 with ⟨y, -⟩ | ⟨-, y, -⟩ | ⟨-, _, _, -, -, -, -, -, y⟩
      · have := sx.1; omega
      · exact y
      · cases y
    · subst z1
      obtain ⟨qd2, t2, p2, mv2, qu2, wy2, e2⟩ := s_core3 (but := none) h sx z2 (fun b hb => by cases hb) qd' t' p' mv' qu' (fun _ => 0)
      rw [if_pos rfl, ev_b _ (show f_BargeBasin_searcher_search11 = some () from rfl), un0_ap, ev_b _ (show f_Search_plansWithout (-1) f' qd' w' h' n' wl' t' k' p' a' wd' hg' s' lo' hi' sl' mv' di' qu' (fun _ => 0) = _ from e2), un7_ap]
      simp only [cmpL]
      by_cases c : lN (capM (cntS B none k P)) < 4611686018427387904
      · rw [if_pos c]
        exact ⟨_, _, _, _, _, _, _, _, _, _, _, _, _, _, _, _, _, _, _, _, _, _, _, _, _,  _, rfl, sc, _, Or.inr (Or.inr ⟨sx.1, k, z2, rfl⟩), Or.inr (Or.inl ⟨capN _, c, rfl, rfl⟩)⟩
      · rw [if_neg c]
        exact ⟨_, _, _, _, _, _, _, _, _, _, _, _, _, _, _, _, _, _, _, _, _, _, _, _, _,  _, rfl, sc, _, Or.inr (Or.inr ⟨sx.1, k, z2, rfl⟩), Or.inr (Or.inr ⟨capN _, c, rfl, rfl⟩)⟩
theorem s_must_01 {B : Bas} {P : Nat → Nat} {b : Nat} {cw chh cn : Int32} {cwl ct : Int64} {ck cp cl cg ca cwd chg : Nat → Int32} {cs : Nat → Int64} (h : basOk B) (hP : stC B P) (hc : chX B P cw chh cn cwl ct ck cp cl cg ca cwd chg cs) (hb : b < bn B) (status : Int32) :
    ∃ (ans st : Int32) (f' qd' sp' w' h' n' : Int32) (wl' t' : Int64) (k' p' l' g' a' wd' hg' : Nat → Int32) (s' lo' hi' : Nat → Int64) (sl' fo' mv' di' qu' : Nat → Int32) (wy' : Nat → Int64), f_BargeBasin_must_search01 (nI b) status cw chh cn cwl ct ck cp cl cg ca cwd chg cs = some (ans, st, f', qd', sp', w', h', n', wl', t', k', p', l', g', a', wd', hg', s', lo', hi', sl', fo', mv', di', qu', wy') ∧ schI f' sl' fo' ∧ mustX B b P ans st := by
  have b12 : b < 12 := by have := h.2.2.2.2.1; omega
  obtain ⟨r, f', qd', sp', w', h', n', wl', t', k', p', l', g', a', wd', hg', s', lo', hi', sl', fo', mv', di', qu', e, sc, q⟩ := s_fault11 (sg := false) (all := false) h hP hc (most := 7) rfl schI_0 0 0 0 0 0 0 0 (fun _ => 0) (fun _ => 0) (fun _ => 0) (fun _ => 0) (fun _ => 0) (fun _ => 0) (fun _ => 0) (fun _ => 0) (fun _ => 0) (fun _ => 0) (fun _ => 0) (fun _ => 0) (fun _ => 0)
  rw [show bI false = (0 : Int32) from rfl] at e
  have fb : f_BargeBasin_faultOfBarge (nI b) cw cn = some 0 := by
    unfold f_BargeBasin_faultOfBarge
    rw [show f_BargeBasin_hasNoBasin cw = some 0 by rw [hc.1]; exact noBas h, ev_b _ rfl, if_pos rfl, if_neg (nI_pos (by omega)), hc.2.2.1, if_pos (nI_lt hb (by have := h.2.2.2.2.1; omega))]
  unfold f_BargeBasin_must_search01
  rw [ev_b _ fb, if_pos rfl, s_fault01 (by rw [hc.1]; exact noBas h), ev_b _ e, un24_ap]
  rcases q with ⟨q1, q2⟩ | ⟨D, sx, q2⟩
  · subst q2
    rw [if_neg (show ¬ (10 : Int32) = 0 by decide)]
    exact ⟨_, _, _, _, _, _, _, _, _, _, _, _, _, _, _, _, _, _, _, _, _, _, _, _, _,  _, rfl, sc, -10, Or.inl ⟨q1, rfl⟩, Or.inl ⟨by decide, rfl, rfl⟩⟩
  · rcases s_core (sg := false) rfl sx.1 sx.2.1 q2 with ⟨z1, z2⟩ | ⟨z1, k, z2, -⟩
    · subst z1
      rw [if_neg (show ¬ (11 : Int32) = 0 by decide)]
      refine ⟨_, _, _, _, _, _, _, _, _, _, _, _, _, _, _, _, _, _, _, _, _, _, _, _, _,  _, rfl, sc, -11, Or.inr (Or.inl ⟨sx.1, ?_, rfl⟩), Or.inl ⟨by decide, rfl, rfl⟩⟩
      rcases z2 with ⟨y, -⟩ | ⟨-, y, -⟩ | ⟨-, _, _, -, -, -, -, -, y⟩
      · have := sx.1; omega
      · exact y
      · cases y
    · subst z1
      obtain ⟨qd2, t2, p2, mv2, qu2, wy2, e2⟩ := s_core3 (but := some b) h sx z2 (fun c hc => by cases hc; exact b12) qd' t' p' mv' qu' (fun _ => 0)
      rw [if_pos rfl, ev_b _ (show f_BargeBasin_searcher_search11 = some () from rfl), un0_ap, ev_b _ (show f_Search_plansWithout (nI b) f' qd' w' h' n' wl' t' k' p' a' wd' hg' s' lo' hi' sl' mv' di' qu' (fun _ => 0) = _ from e2), un7_ap]
      simp only [cmpE]
      by_cases c : lN (capM (cntS B (some b) k P)) = 0
      · rw [if_pos c]
        exact ⟨_, _, _, _, _, _, _, _, _, _, _, _, _, _, _, _, _, _, _, _, _, _, _, _, _,  _, rfl, sc, _, Or.inr (Or.inr ⟨sx.1, k, z2, rfl⟩), Or.inr (Or.inl ⟨capN _, c, rfl, rfl⟩)⟩
      · rw [if_neg c]
        exact ⟨_, _, _, _, _, _, _, _, _, _, _, _, _, _, _, _, _, _, _, _, _, _, _, _, _,  _, rfl, sc, _, Or.inr (Or.inr ⟨sx.1, k, z2, rfl⟩), Or.inr (Or.inr ⟨capN _, c, rfl, rfl⟩)⟩
theorem s_far_01 {B : Bas} {P : Nat → Nat} {cw chh cn : Int32} {cwl ct : Int64} {ck cp cl cg ca cwd chg : Nat → Int32} {cs : Nat → Int64} (h : basOk B) (hP : stC B P) (hc : chX B P cw chh cn cwl ct ck cp cl cg ca cwd chg cs) (status : Int32) :
    ∃ (ans st : Int32) (f' qd' sp' w' h' n' : Int32) (wl' t' : Int64) (k' p' l' g' a' wd' hg' : Nat → Int32) (s' lo' hi' : Nat → Int64) (sl' fo' mv' di' qu' : Nat → Int32), f_BargeBasin_far_search01 status cw chh cn cwl ct ck cp cl cg ca cwd chg cs = some (ans, st, f', qd', sp', w', h', n', wl', t', k', p', l', g', a', wd', hg', s', lo', hi', sl', fo', mv', di', qu') ∧ schI f' sl' fo' ∧ farX B P ans st := by
  obtain ⟨r, f', qd', sp', w', h', n', wl', t', k', p', l', g', a', wd', hg', s', lo', hi', sl', fo', mv', di', qu', e, sc, q⟩ := s_fault11 (sg := false) (all := true) h hP hc (most := 7) rfl schI_0 0 0 0 0 0 0 0 (fun _ => 0) (fun _ => 0) (fun _ => 0) (fun _ => 0) (fun _ => 0) (fun _ => 0) (fun _ => 0) (fun _ => 0) (fun _ => 0) (fun _ => 0) (fun _ => 0) (fun _ => 0) (fun _ => 0)
  rw [show bI false = (0 : Int32) from rfl, show bI true = (1 : Int32) from rfl] at e
  unfold f_BargeBasin_far_search01
  rw [s_fault01 (by rw [hc.1]; exact noBas h), ev_b _ e, un24_ap]
  rcases q with ⟨q1, q2⟩ | ⟨D, sx, q2⟩
  · subst q2
    rw [if_neg (show ¬ (10 : Int32) = 0 by decide)]
    exact ⟨_, _, _, _, _, _, _, _, _, _, _, _, _, _, _, _, _, _, _, _, _, _, _, _, _,  rfl, sc, Or.inl ⟨q1, rfl, rfl⟩⟩
  · have sx' := sx
    obtain ⟨x1, x2, x3, x4, x5, x6, x7, x8, x9, x10, x11, x12⟩ := sx'
    cases eb : bestO D (FL B 7 P).length with
    | none =>
      have : r = 11 := by rw [q2]; simp [eb]
      subst this
      rw [if_neg (show ¬ (11 : Int32) = 0 by decide)]
      exact ⟨_, _, _, _, _, _, _, _, _, _, _, _, _, _, _, _, _, _, _, _, _, _, _, _, _,  rfl, sc, Or.inr (Or.inl ⟨x1, (bst_none x2).mp eb, rfl, rfl⟩)⟩
    | some b =>
      have : r = 0 := by rw [q2]; simp [eb]
      subst this
      have l := bestO_lt eb
      have ft := s_farthest x1 x3 (fun u k hu e => by have := x4 u k hu e; omega)
      rw [eb, show (some b).bind D = D b from rfl, some_dv l.2] at ft
      rw [← x5] at ft
      rw [if_pos rfl, ev_b _ (show f_BargeBasin_searcher_search11 = some () from rfl), un0_ap, ev_b _ ft]
      exact ⟨_, _, _, _, _, _, _, _, _, _, _, _, _, _, _, _, _, _, _, _, _, _, _, _, _,  rfl, sc, Or.inr (Or.inr ⟨x1, b, _, ⟨D, x2, eb, some_dv l.2⟩, rfl, rfl⟩)⟩
theorem s_go_01 {B : Bas} {P : Nat → Nat} {cw chh cn : Int32} {cwl ct : Int64} {ck cp cl cg ca cwd chg : Nat → Int32} {cs : Nat → Int64} (h : basOk B) (hP : stC B P) (hc : chX B P cw chh cn cwl ct ck cp cl cg ca cwd chg cs) (status ld lu : Int32) :
    ∃ (ans st : Int32) (ct' : Int64) (cp' : Nat → Int32) (ld' lu' : Int32) (f' qd' sp' w' h' n' : Int32) (wl' t' : Int64) (k' p' l' g' a' wd' hg' : Nat → Int32) (s' lo' hi' : Nat → Int64) (sl' fo' mv' di' qu' : Nat → Int32), f_BargeBasin_go_search01 status cw chh cn cwl ct ck cp cl cg ca cwd chg cs ld lu = some (ans, st, ct', cp', ld', lu', f', qd', sp', w', h', n', wl', t', k', p', l', g', a', wd', hg', s', lo', hi', sl', fo', mv', di', qu') ∧ schI f' sl' fo' ∧
      ((∃ st0, farX B P (-1) st0 ∧ st0 ≠ 0 ∧ ans = 0 ∧ st = st0 ∧ ct' = ct ∧ cp' = cp ∧ ld' = ld ∧ lu' = lu) ∨ ((FL B 7 P).length ≤ 6000 ∧ ∃ b k, bstX B P b k ∧ ans = 1 ∧ st = 0 ∧ ld' = 0 ∧ lu' = 0 ∧ chT B (gt (FL B 7 P) b) ct' ∧ chP B (gt (FL B 7 P) b) cp')) := by
  obtain ⟨r, f', qd', sp', w', h', n', wl', t', k', p', l', g', a', wd', hg', s', lo', hi', sl', fo', mv', di', qu', e, sc, q⟩ := s_fault11 (sg := false) (all := true) h hP hc (most := 7) rfl schI_0 0 0 0 0 0 0 0 (fun _ => 0) (fun _ => 0) (fun _ => 0) (fun _ => 0) (fun _ => 0) (fun _ => 0) (fun _ => 0) (fun _ => 0) (fun _ => 0) (fun _ => 0) (fun _ => 0) (fun _ => 0) (fun _ => 0)
  rw [show bI false = (0 : Int32) from rfl, show bI true = (1 : Int32) from rfl] at e
  unfold f_BargeBasin_go_search01
  rw [s_fault01 (by rw [hc.1]; exact noBas h), ev_b _ e, un24_ap]
  rcases q with ⟨q1, q2⟩ | ⟨D, sx, q2⟩
  · subst q2
    rw [if_neg (show ¬ (10 : Int32) = 0 by decide)]
    exact ⟨_, _, _, _, _, _, _, _, _, _, _, _, _, _, _, _, _, _, _, _, _, _, _, _, _, _, _, _, _,  rfl, sc, Or.inl ⟨10, Or.inl ⟨q1, rfl, rfl⟩, by decide, rfl, rfl, rfl, rfl, rfl, rfl⟩⟩
  · have sx' := sx
    obtain ⟨x1, x2, x3, x4, x5, x6, x7, x8, x9, x10, x11, x12⟩ := sx'
    cases eb : bestO D (FL B 7 P).length with
    | none =>
      have : r = 11 := by rw [q2]; simp [eb]
      subst this
      rw [if_neg (show ¬ (11 : Int32) = 0 by decide)]
      exact ⟨_, _, _, _, _, _, _, _, _, _, _, _, _, _, _, _, _, _, _, _, _, _, _, _, _, _, _, _, _,  rfl, sc, Or.inl ⟨11, Or.inr (Or.inl ⟨x1, (bst_none x2).mp eb, rfl, rfl⟩), by decide, rfl, rfl, rfl, rfl, rfl, rfl⟩⟩
    | some b =>
      have : r = 0 := by rw [q2]; simp [eb]
      subst this
      have l := bestO_lt eb
      have hd := s_hardest x1 x3 (fun u k hu e => by have := x4 u k hu e; omega)
      rw [eb] at hd
      rw [← x5] at hd
      obtain ⟨o1, o2⟩ := x6.2.2.1 b l.1
      obtain ⟨ct2, cp2, e2, y1, y2⟩ := s_layOut h (x6.2.1 _ (List.getElem_mem l.1)) hc.2.2.2.2.2.1 l.1 x1 o1 o2 ct cp
      rw [← x5, ← hc.2.2.1] at e2
      rw [if_pos rfl, ev_b _ (show f_BargeBasin_searcher_search11 = some () from rfl), un0_ap, ev_b _ hd, ev_b _ (show f_Search_layOut (oI (some b)) f' lo' hi' cn ct cp cs = _ from e2), un2_ap]
      refine ⟨_, _, _, _, _, _, _, _, _, _, _, _, _, _, _, _, _, _, _, _, _, _, _, _, _, _, _, _, _,  rfl, sc, Or.inr ⟨x1, b, _, ⟨D, x2, eb, some_dv l.2⟩, rfl, rfl, rfl, rfl, ?_, ?_⟩⟩
      · rw [gt_at l.1]; exact y1
      · rw [gt_at l.1]; exact y2
theorem s_reach_11 {B : Bas} {P : Nat → Nat} {cw chh cn : Int32} {cwl ct : Int64} {ck cp cl cg ca cwd chg : Nat → Int32} {cs : Nat → Int64} (h : basOk B) (hP : stC B P) (hc : chX B P cw chh cn cwl ct ck cp cl cg ca cwd chg cs) {found : Int32} {slots for1 : Nat → Int32} (hs : schI found slots for1) (sp w0 h0 n0 : Int32) (wl0 t0 : Int64) (k0 p0 l0 g0 a0 wd0 hg0 : Nat → Int32) (s0 low high : Nat → Int64) (mv : Nat → Int32) (status : Int32) :
    ∃ (ans st : Int32) (f' sp' w' h' n' : Int32) (wl' t' : Int64) (k' p' l' g' a' wd' hg' : Nat → Int32) (s' lo' hi' : Nat → Int64) (sl' fo' mv' : Nat → Int32), f_BargeBasin_reach_search11 status cw chh cn cwl ct ck cp cl cg ca cwd chg cs found sp w0 h0 n0 wl0 t0 k0 p0 l0 g0 a0 wd0 hg0 s0 low high slots for1 mv = some (ans, st, f', sp', w', h', n', wl', t', k', p', l', g', a', wd', hg', s', lo', hi', sl', fo', mv') ∧ schI f' sl' fo' ∧ reachX B P ans st := by
  obtain ⟨f1, sp1, t1, k1, p1, l1, g1, a1, wd1, hg1, s1, lo1, hi1, sl1, fo1, mv1, e1, cb, cg1, x1⟩ := s_explore h hP hc hs sp w0 h0 n0 wl0 t0 k0 p0 l0 g0 a0 wd0 hg0 s0 low high mv
  have sc := exS_sch x1
  unfold f_BargeBasin_reach_search11
  rw [show f_BargeBasin_hasNoBasin cw = some 0 by rw [hc.1]; exact noBas h, ev_b _ rfl, if_pos rfl, ev_b _ (show f_BargeBasin_searcher_search11 = some () from rfl), un0_ap, ev_b _ e1, un21_ap]
  by_cases c : (FL B 7 P).length ≤ 6000
  · rw [decide_eq_true c, if_neg (show ¬ bI true = 0 by decide)]
    refine ⟨_, _, _, _, _, _, _, _, _, _, _, _, _, _, _, _, _, _, _, _, _, _,  rfl, sc, Or.inl ⟨c, ?_, rfl⟩⟩
    rcases x1 with ⟨-, y2, -⟩ | ⟨-, y2, -⟩
    · exact y2
    · omega
  · rw [decide_eq_false c, if_pos (show bI false = 0 by decide)]
    exact ⟨_, _, _, _, _, _, _, _, _, _, _, _, _, _, _, _, _, _, _, _, _, _,  rfl, sc, Or.inr ⟨by omega, rfl, rfl⟩⟩
