/-! fewest and fewestSteps of the class, where there is a basin: printed by gen76.py. -/

theorem srX_isD {B : Bas} {P : Nat → Nat} {most : Nat} {D : Nat → Option Nat} (hm : most = 1 ∨ most = 7) (hl : (FL B 7 P).length ≤ 6000) (hd : distOk (FL B 7 P).length (edL B (FL B 7 P) most) (frL B (FL B 7 P)) D) : (∀ u, (hu : u < (FL B 7 P).length) → ∀ k, D u = some k ↔ isD B most (FL B 7 P)[u] k) ∧ ∀ k, D 0 = some k ↔ isD B most P k := by
  have a := dist_isD (clsd_7 hl most hm) hd
  refine ⟨a, fun k => ?_⟩
  obtain ⟨z0, z1⟩ := FL_0 (B := B) (most := 7) (P := P)
  have := a 0 z0 k
  rw [z1] at this
  exact this
/-- what faultOfSearch(.., false) means -/
theorem s_core {B : Bas} {P : Nat → Nat} {sg : Bool} {most : Nat} {D : Nat → Option Nat} {r : Int32} (hmost : most = if sg then 1 else 7) (hl : (FL B 7 P).length ≤ 6000) (hd : distOk (FL B 7 P).length (edL B (FL B 7 P) most) (frL B (FL B 7 P)) D) (hr : r = (if (if false = true then bestO D (FL B 7 P).length else D 0) = none then 11 else 0)) :
    (r = 11 ∧ plX B most P (-1) 11 none) ∨ (r = 0 ∧ ∃ k, isD B most P k ∧ D 0 = some k) := by
  have hm : most = 1 ∨ most = 7 := by rw [hmost]; cases sg <;> simp
  obtain ⟨a, b⟩ := srX_isD hm hl hd
  cases e : D 0 with
  | none =>
    refine Or.inl ⟨by rw [hr]; simp [e], Or.inr (Or.inl ⟨hl, fun k hk => ?_, rfl, rfl, rfl⟩)⟩
    obtain ⟨j, -, hj⟩ := isD_ex hk
    have := (b j).mpr hj
    rw [e] at this; cases this
  | some k => exact Or.inr ⟨by rw [hr]; simp [e], k, (b k).mp e, rfl⟩
theorem s_core2 {B : Bas} {P : Nat → Nat} {sg : Bool} {most k : Nat} {D : Nat → Option Nat} {f w hh n : Int32} {wl : Int64} {kk g a wd hg : Nat → Int32} {s lo hi : Nat → Int64} {sl fo di : Nat → Int32} (h : basOk B) (hmost : most = if sg then 1 else 7) (sx : srX B P most D f w hh n wl kk g a wd hg s lo hi sl fo di) (hk : isD B most P k) (t : Int64) (p mv : Nat → Int32) (ps : Int32) (pm : Nat → Int32) :
    ∃ cs t' p' mv' pm', f_Search_writePlan (bI sg) f w hh n wl t kk p a wd hg s lo hi sl mv di ps pm = some (nI cs.length, t', p', mv', nI cs.length, pm') ∧ plX B most P (nI cs.length) 0 (some cs) ∧ wrt pm' cs ∧ cs.length < 6000 := by
  obtain ⟨x1, x2, x3, x4, x5, x6, x7, x8, x9, x10, x11, x12⟩ := sx
  subst x5; subst x7; subst x8; subst x9
  have hm : most = 1 ∨ most = 7 := by rw [hmost]; cases sg <;> simp
  obtain ⟨z0, z1⟩ := FL_0 (B := B) (most := 7) (P := P)
  obtain ⟨aD, bD⟩ := srX_isD hm x1 x2
  obtain ⟨cs, t', p', mv', pm', e, g1, g2, g3⟩ := s_writePlan h x6 x11 x10 hmost (clsd_7 x1 most hm) aD x3 x4 z0 (by rw [z1]; exact hk) t p mv ps pm
  rw [z1] at g1
  have kl := x4 0 k z0 ((bD k).mpr hk)
  exact ⟨cs, t', p', mv', pm', e, Or.inr (Or.inr ⟨x1, k, cs, hk, g1, by omega, by rw [g3], rfl, rfl⟩), g2, by omega⟩
/-- whether a plan is found -/
def fnd (B : Bas) (most : Nat) (P : Nat → Nat) : Prop := (FL B 7 P).length ≤ 6000 ∧ ∃ k, canD B most k P

theorem s_fewest_00_11 {B : Bas} {P : Nat → Nat} {cw chh cn : Int32} {cwl ct : Int64} {ck cp cl cg ca cwd chg : Nat → Int32} {cs : Nat → Int64} (h : basOk B) (hP : stC B P) (hc : chX B P cw chh cn cwl ct ck cp cl cg ca cwd chg cs) (hn : ¬ fnd B 7 P) {found : Int32} {slots for1 : Nat → Int32} (hs : schI found slots for1) (qd sp w0 h0 n0 : Int32) (wl0 t0 : Int64) (k0 p0 l0 g0 a0 wd0 hg0 : Nat → Int32) (s0 low high : Nat → Int64) (mv di qu : Nat → Int32) (status : Int32) :
    ∃ (ans st : Int32) (f' qd' sp' w' h' n' : Int32) (wl' t' : Int64) (k' p' l' g' a' wd' hg' : Nat → Int32) (s' lo' hi' : Nat → Int64) (sl' fo' mv' di' qu' : Nat → Int32), f_BargeBasin_fewest_plan00_search11 status cw chh cn cwl ct ck cp cl cg ca cwd chg cs found qd sp w0 h0 n0 wl0 t0 k0 p0 l0 g0 a0 wd0 hg0 s0 low high slots for1 mv di qu = some (ans, st, f', qd', sp', w', h', n', wl', t', k', p', l', g', a', wd', hg', s', lo', hi', sl', fo', mv', di', qu') ∧ schI f' sl' fo' ∧ plX B 7 P ans st none := by
  obtain ⟨r, f', qd', sp', w', h', n', wl', t', k', p', l', g', a', wd', hg', s', lo', hi', sl', fo', mv', di', qu', e, sc, q⟩ := s_fault11 (sg := false) (all := false) h hP hc (most := 7) rfl hs qd sp w0 h0 n0 wl0 t0 k0 p0 l0 g0 a0 wd0 hg0 s0 low high mv di qu
  rw [show bI false = (0 : Int32) from rfl] at e
  unfold f_BargeBasin_fewest_plan00_search11
  rw [ev_b _ e, un24_ap]
  rcases q with ⟨q1, q2⟩ | ⟨D, sx, q2⟩
  · subst q2
    rw [if_neg (show ¬ (10 : Int32) = 0 by decide)]
    exact ⟨_, _, _, _, _, _, _, _, _, _, _, _, _, _, _, _, _, _, _, _, _, _, _, _, _, rfl, sc, Or.inl ⟨q1, rfl, rfl, rfl⟩⟩
  · rcases s_core (sg := false) rfl sx.1 sx.2.1 q2 with ⟨z1, z2⟩ | ⟨z1, k, z2, -⟩
    · subst z1
      rw [if_neg (show ¬ (11 : Int32) = 0 by decide)]
      exact ⟨_, _, _, _, _, _, _, _, _, _, _, _, _, _, _, _, _, _, _, _, _, _, _, _, _, rfl, sc, z2⟩
    · exact absurd ⟨sx.1, k, z2.1⟩ hn
theorem s_fewest_01_11 {B : Bas} {P : Nat → Nat} {cw chh cn : Int32} {cwl ct : Int64} {ck cp cl cg ca cwd chg : Nat → Int32} {cs : Nat → Int64} (h : basOk B) (hP : stC B P) (hc : chX B P cw chh cn cwl ct ck cp cl cg ca cwd chg cs) (hn : fnd B 7 P) {found : Int32} {slots for1 : Nat → Int32} (hs : schI found slots for1) (qd sp w0 h0 n0 : Int32) (wl0 t0 : Int64) (k0 p0 l0 g0 a0 wd0 hg0 : Nat → Int32) (s0 low high : Nat → Int64) (mv di qu : Nat → Int32) (status : Int32) :
    ∃ (ans st : Int32) (f' qd' sp' w' h' n' : Int32) (wl' t' : Int64) (k' p' l' g' a' wd' hg' : Nat → Int32) (s' lo' hi' : Nat → Int64) (sl' fo' mv' di' qu' : Nat → Int32) (ps' : Int32) (pm' : Nat → Int32) (cs' : List Nat), f_BargeBasin_fewest_plan01_search11 status cw chh cn cwl ct ck cp cl cg ca cwd chg cs found qd sp w0 h0 n0 wl0 t0 k0 p0 l0 g0 a0 wd0 hg0 s0 low high slots for1 mv di qu = some (ans, st, f', qd', sp', w', h', n', wl', t', k', p', l', g', a', wd', hg', s', lo', hi', sl', fo', mv', di', qu', ps', pm') ∧ schI f' sl' fo' ∧ plX B 7 P ans st (some cs') ∧ ps' = nI cs'.length ∧ wrt pm' cs' ∧ cs'.length < 6000 := by
  obtain ⟨r, f', qd', sp', w', h', n', wl', t', k', p', l', g', a', wd', hg', s', lo', hi', sl', fo', mv', di', qu', e, sc, q⟩ := s_fault11 (sg := false) (all := false) h hP hc (most := 7) rfl hs qd sp w0 h0 n0 wl0 t0 k0 p0 l0 g0 a0 wd0 hg0 s0 low high mv di qu
  rw [show bI false = (0 : Int32) from rfl] at e
  unfold f_BargeBasin_fewest_plan01_search11
  rw [ev_b _ e, un24_ap]
  rcases q with ⟨q1, q2⟩ | ⟨D, sx, q2⟩
  · have := hn.1; omega
  · rcases s_core (sg := false) rfl sx.1 sx.2.1 q2 with ⟨z1, z2⟩ | ⟨z1, k, z2, -⟩
    · exfalso
      obtain ⟨l, k, hk⟩ := hn
      rcases z2 with ⟨y, -⟩ | ⟨-, y, -⟩ | ⟨-, _, _, -, -, -, -, -, y⟩
      · omega
      · exact y k hk
      · cases y
    · subst z1
      obtain ⟨cs', t2, p2, mv2, pm2, e2, y1, y2, y3⟩ := s_core2 (sg := false) h rfl sx z2 t' p' mv' 0 (fun _ => 0)
      rw [show bI false = (0 : Int32) from rfl] at e2
      rw [if_pos rfl, ev_b _ (show f_BargeBasin_searcher_search11 = some () from rfl), un0_ap, ev_b _ (show f_BargeBasin_planToKeep_plan01 = some () from rfl), un0_ap, ev_b _ e2, un6_ap]
      exact ⟨_, _, _, _, _, _, _, _, _, _, _, _, _, _, _, _, _, _, _, _, _, _, _, _, _, _, _, cs', rfl, sc, y1, rfl, y2, y3⟩
theorem s_fewest_11_11 {B : Bas} {P : Nat → Nat} {cw chh cn : Int32} {cwl ct : Int64} {ck cp cl cg ca cwd chg : Nat → Int32} {cs : Nat → Int64} (h : basOk B) (hP : stC B P) (hc : chX B P cw chh cn cwl ct ck cp cl cg ca cwd chg cs) {found : Int32} {slots for1 : Nat → Int32} (hs : schI found slots for1) (qd sp w0 h0 n0 : Int32) (wl0 t0 : Int64) (k0 p0 l0 g0 a0 wd0 hg0 : Nat → Int32) (s0 low high : Nat → Int64) (mv di qu : Nat → Int32) (status ps : Int32) (pm : Nat → Int32) :
    ∃ (ans st : Int32) (f' qd' sp' w' h' n' : Int32) (wl' t' : Int64) (k' p' l' g' a' wd' hg' : Nat → Int32) (s' lo' hi' : Nat → Int64) (sl' fo' mv' di' qu' : Nat → Int32) (ps' : Int32) (pm' : Nat → Int32) (new : Option (List Nat)), f_BargeBasin_fewest_plan11_search11 status cw chh cn cwl ct ck cp cl cg ca cwd chg cs found qd sp w0 h0 n0 wl0 t0 k0 p0 l0 g0 a0 wd0 hg0 s0 low high slots for1 mv di qu ps pm = some (ans, st, f', qd', sp', w', h', n', wl', t', k', p', l', g', a', wd', hg', s', lo', hi', sl', fo', mv', di', qu', ps', pm') ∧ schI f' sl' fo' ∧ plX B 7 P ans st new ∧ (new = none → ps' = ps ∧ pm' = pm) ∧ (∀ cs', new = some cs' → ps' = nI cs'.length ∧ wrt pm' cs' ∧ cs'.length < 6000) := by
  obtain ⟨r, f', qd', sp', w', h', n', wl', t', k', p', l', g', a', wd', hg', s', lo', hi', sl', fo', mv', di', qu', e, sc, q⟩ := s_fault11 (sg := false) (all := false) h hP hc (most := 7) rfl hs qd sp w0 h0 n0 wl0 t0 k0 p0 l0 g0 a0 wd0 hg0 s0 low high mv di qu
  rw [show bI false = (0 : Int32) from rfl] at e
  unfold f_BargeBasin_fewest_plan11_search11
  rw [ev_b _ e, un24_ap]
  rcases q with ⟨q1, q2⟩ | ⟨D, sx, q2⟩
  · subst q2
    rw [if_neg (show ¬ (10 : Int32) = 0 by decide)]
    exact ⟨_, _, _, _, _, _, _, _, _, _, _, _, _, _, _, _, _, _, _, _, _, _, _, _, _, _, _, none, rfl, sc, Or.inl ⟨q1, rfl, rfl, rfl⟩, fun _ => ⟨rfl, rfl⟩, fun c z => by cases z⟩
  · rcases s_core (sg := false) rfl sx.1 sx.2.1 q2 with ⟨z1, z2⟩ | ⟨z1, k, z2, -⟩
    · subst z1
      rw [if_neg (show ¬ (11 : Int32) = 0 by decide)]
      exact ⟨_, _, _, _, _, _, _, _, _, _, _, _, _, _, _, _, _, _, _, _, _, _, _, _, _, _, _, none, rfl, sc, z2, fun _ => ⟨rfl, rfl⟩, fun c z => by cases z⟩
    · subst z1
      obtain ⟨cs', t2, p2, mv2, pm2, e2, y1, y2, y3⟩ := s_core2 (sg := false) h rfl sx z2 t' p' mv' ps pm
      rw [show bI false = (0 : Int32) from rfl] at e2
      rw [if_pos rfl, ev_b _ (show f_BargeBasin_searcher_search11 = some () from rfl), un0_ap, ev_b _ (show f_BargeBasin_planToKeep_plan11 = some () from rfl), un0_ap, ev_b _ e2, un6_ap]
      exact ⟨_, _, _, _, _, _, _, _, _, _, _, _, _, _, _, _, _, _, _, _, _, _, _, _, _, _, _, some cs', rfl, sc, y1, fun z => by (cases z), fun c z => by cases z; exact ⟨rfl, y2, y3⟩⟩
theorem s_fewest_00_01 {B : Bas} {P : Nat → Nat} {cw chh cn : Int32} {cwl ct : Int64} {ck cp cl cg ca cwd chg : Nat → Int32} {cs : Nat → Int64} (h : basOk B) (hP : stC B P) (hc : chX B P cw chh cn cwl ct ck cp cl cg ca cwd chg cs) (hn : ¬ fnd B 7 P) (status : Int32) :
    ∃ (ans st : Int32) (f' qd' sp' w' h' n' : Int32) (wl' t' : Int64) (k' p' l' g' a' wd' hg' : Nat → Int32) (s' lo' hi' : Nat → Int64) (sl' fo' mv' di' qu' : Nat → Int32), f_BargeBasin_fewest_plan00_search01 status cw chh cn cwl ct ck cp cl cg ca cwd chg cs = some (ans, st, f', qd', sp', w', h', n', wl', t', k', p', l', g', a', wd', hg', s', lo', hi', sl', fo', mv', di', qu') ∧ schI f' sl' fo' ∧ plX B 7 P ans st none := by
  obtain ⟨r, f', qd', sp', w', h', n', wl', t', k', p', l', g', a', wd', hg', s', lo', hi', sl', fo', mv', di', qu', e, sc, q⟩ := s_fault11 (sg := false) (all := false) h hP hc (most := 7) rfl schI_0 0 0 0 0 0 0 0 (fun _ => 0) (fun _ => 0) (fun _ => 0) (fun _ => 0) (fun _ => 0) (fun _ => 0) (fun _ => 0) (fun _ => 0) (fun _ => 0) (fun _ => 0) (fun _ => 0) (fun _ => 0) (fun _ => 0)
  rw [show bI false = (0 : Int32) from rfl] at e
  unfold f_BargeBasin_fewest_plan00_search01
  rw [s_fault01 (by rw [hc.1]; exact noBas h), ev_b _ e, un24_ap]
  rcases q with ⟨q1, q2⟩ | ⟨D, sx, q2⟩
  · subst q2
    rw [if_neg (show ¬ (10 : Int32) = 0 by decide)]
    exact ⟨_, _, _, _, _, _, _, _, _, _, _, _, _, _, _, _, _, _, _, _, _, _, _, _, _, rfl, sc, Or.inl ⟨q1, rfl, rfl, rfl⟩⟩
  · rcases s_core (sg := false) rfl sx.1 sx.2.1 q2 with ⟨z1, z2⟩ | ⟨z1, k, z2, -⟩
    · subst z1
      rw [if_neg (show ¬ (11 : Int32) = 0 by decide)]
      exact ⟨_, _, _, _, _, _, _, _, _, _, _, _, _, _, _, _, _, _, _, _, _, _, _, _, _, rfl, sc, z2⟩
    · exact absurd ⟨sx.1, k, z2.1⟩ hn
theorem s_fewest_01_01 {B : Bas} {P : Nat → Nat} {cw chh cn : Int32} {cwl ct : Int64} {ck cp cl cg ca cwd chg : Nat → Int32} {cs : Nat → Int64} (h : basOk B) (hP : stC B P) (hc : chX B P cw chh cn cwl ct ck cp cl cg ca cwd chg cs) (hn : fnd B 7 P) (status : Int32) :
    ∃ (ans st : Int32) (f' qd' sp' w' h' n' : Int32) (wl' t' : Int64) (k' p' l' g' a' wd' hg' : Nat → Int32) (s' lo' hi' : Nat → Int64) (sl' fo' mv' di' qu' : Nat → Int32) (ps' : Int32) (pm' : Nat → Int32) (cs' : List Nat), f_BargeBasin_fewest_plan01_search01 status cw chh cn cwl ct ck cp cl cg ca cwd chg cs = some (ans, st, f', qd', sp', w', h', n', wl', t', k', p', l', g', a', wd', hg', s', lo', hi', sl', fo', mv', di', qu', ps', pm') ∧ schI f' sl' fo' ∧ plX B 7 P ans st (some cs') ∧ ps' = nI cs'.length ∧ wrt pm' cs' ∧ cs'.length < 6000 := by
  obtain ⟨r, f', qd', sp', w', h', n', wl', t', k', p', l', g', a', wd', hg', s', lo', hi', sl', fo', mv', di', qu', e, sc, q⟩ := s_fault11 (sg := false) (all := false) h hP hc (most := 7) rfl schI_0 0 0 0 0 0 0 0 (fun _ => 0) (fun _ => 0) (fun _ => 0) (fun _ => 0) (fun _ => 0) (fun _ => 0) (fun _ => 0) (fun _ => 0) (fun _ => 0) (fun _ => 0) (fun _ => 0) (fun _ => 0) (fun _ => 0)
  rw [show bI false = (0 : Int32) from rfl] at e
  unfold f_BargeBasin_fewest_plan01_search01
  rw [s_fault01 (by rw [hc.1]; exact noBas h), ev_b _ e, un24_ap]
  rcases q with ⟨q1, q2⟩ | ⟨D, sx, q2⟩
  · have := hn.1; omega
  · rcases s_core (sg := false) rfl sx.1 sx.2.1 q2 with ⟨z1, z2⟩ | ⟨z1, k, z2, -⟩
    · exfalso
      obtain ⟨l, k, hk⟩ := hn
      rcases z2 with ⟨y, -⟩ | ⟨-, y, -⟩ | ⟨-, _, _, -, -, -, -, -, y⟩
      · omega
      · exact y k hk
      · cases y
    · subst z1
      obtain ⟨cs', t2, p2, mv2, pm2, e2, y1, y2, y3⟩ := s_core2 (sg := false) h rfl sx z2 t' p' mv' 0 (fun _ => 0)
      rw [show bI false = (0 : Int32) from rfl] at e2
      rw [if_pos rfl, ev_b _ (show f_BargeBasin_searcher_search11 = some () from rfl), un0_ap, ev_b _ (show f_BargeBasin_planToKeep_plan01 = some () from rfl), un0_ap, ev_b _ e2, un6_ap]
      exact ⟨_, _, _, _, _, _, _, _, _, _, _, _, _, _, _, _, _, _, _, _, _, _, _, _, _, _, _, cs', rfl, sc, y1, rfl, y2, y3⟩
theorem s_fewest_11_01 {B : Bas} {P : Nat → Nat} {cw chh cn : Int32} {cwl ct : Int64} {ck cp cl cg ca cwd chg : Nat → Int32} {cs : Nat → Int64} (h : basOk B) (hP : stC B P) (hc : chX B P cw chh cn cwl ct ck cp cl cg ca cwd chg cs) (status ps : Int32) (pm : Nat → Int32) :
    ∃ (ans st : Int32) (f' qd' sp' w' h' n' : Int32) (wl' t' : Int64) (k' p' l' g' a' wd' hg' : Nat → Int32) (s' lo' hi' : Nat → Int64) (sl' fo' mv' di' qu' : Nat → Int32) (ps' : Int32) (pm' : Nat → Int32) (new : Option (List Nat)), f_BargeBasin_fewest_plan11_search01 status cw chh cn cwl ct ck cp cl cg ca cwd chg cs ps pm = some (ans, st, ps', pm', f', qd', sp', w', h', n', wl', t', k', p', l', g', a', wd', hg', s', lo', hi', sl', fo', mv', di', qu') ∧ schI f' sl' fo' ∧ plX B 7 P ans st new ∧ (new = none → ps' = ps ∧ pm' = pm) ∧ (∀ cs', new = some cs' → ps' = nI cs'.length ∧ wrt pm' cs' ∧ cs'.length < 6000) := by
  obtain ⟨r, f', qd', sp', w', h', n', wl', t', k', p', l', g', a', wd', hg', s', lo', hi', sl', fo', mv', di', qu', e, sc, q⟩ := s_fault11 (sg := false) (all := false) h hP hc (most := 7) rfl schI_0 0 0 0 0 0 0 0 (fun _ => 0) (fun _ => 0) (fun _ => 0) (fun _ => 0) (fun _ => 0) (fun _ => 0) (fun _ => 0) (fun _ => 0) (fun _ => 0) (fun _ => 0) (fun _ => 0) (fun _ => 0) (fun _ => 0)
  rw [show bI false = (0 : Int32) from rfl] at e
  unfold f_BargeBasin_fewest_plan11_search01
  rw [s_fault01 (by rw [hc.1]; exact noBas h), ev_b _ e, un24_ap]
  rcases q with ⟨q1, q2⟩ | ⟨D, sx, q2⟩
  · subst q2
    rw [if_neg (show ¬ (10 : Int32) = 0 by decide)]
    exact ⟨_, _, _, _, _, _, _, _, _, _, _, _, _, _, _, _, _, _, _, _, _, _, _, _, _, _, _, none, rfl, sc, Or.inl ⟨q1, rfl, rfl, rfl⟩, fun _ => ⟨rfl, rfl⟩, fun c z => by cases z⟩
  · rcases s_core (sg := false) rfl sx.1 sx.2.1 q2 with ⟨z1, z2⟩ | ⟨z1, k, z2, -⟩
    · subst z1
      rw [if_neg (show ¬ (11 : Int32) = 0 by decide)]
      exact ⟨_, _, _, _, _, _, _, _, _, _, _, _, _, _, _, _, _, _, _, _, _, _, _, _, _, _, _, none, rfl, sc, z2, fun _ => ⟨rfl, rfl⟩, fun c z => by cases z⟩
    · subst z1
      obtain ⟨cs', t2, p2, mv2, pm2, e2, y1, y2, y3⟩ := s_core2 (sg := false) h rfl sx z2 t' p' mv' ps pm
      rw [show bI false = (0 : Int32) from rfl] at e2
      rw [if_pos rfl, ev_b _ (show f_BargeBasin_searcher_search11 = some () from rfl), un0_ap, ev_b _ (show f_BargeBasin_planToKeep_plan11 = some () from rfl), un0_ap, ev_b _ e2, un6_ap]
      exact ⟨_, _, _, _, _, _, _, _, _, _, _, _, _, _, _, _, _, _, _, _, _, _, _, _, _, _, _, some cs', rfl, sc, y1, fun z => by (cases z), fun c z => by cases z; exact ⟨rfl, y2, y3⟩⟩
theorem s_fewestSteps_00_11 {B : Bas} {P : Nat → Nat} {cw chh cn : Int32} {cwl ct : Int64} {ck cp cl cg ca cwd chg : Nat → Int32} {cs : Nat → Int64} (h : basOk B) (hP : stC B P) (hc : chX B P cw chh cn cwl ct ck cp cl cg ca cwd chg cs) (hn : ¬ fnd B 1 P) {found : Int32} {slots for1 : Nat → Int32} (hs : schI found slots for1) (qd sp w0 h0 n0 : Int32) (wl0 t0 : Int64) (k0 p0 l0 g0 a0 wd0 hg0 : Nat → Int32) (s0 low high : Nat → Int64) (mv di qu : Nat → Int32) (status : Int32) :
    ∃ (ans st : Int32) (f' qd' sp' w' h' n' : Int32) (wl' t' : Int64) (k' p' l' g' a' wd' hg' : Nat → Int32) (s' lo' hi' : Nat → Int64) (sl' fo' mv' di' qu' : Nat → Int32), f_BargeBasin_fewestSteps_plan00_search11 status cw chh cn cwl ct ck cp cl cg ca cwd chg cs found qd sp w0 h0 n0 wl0 t0 k0 p0 l0 g0 a0 wd0 hg0 s0 low high slots for1 mv di qu = some (ans, st, f', qd', sp', w', h', n', wl', t', k', p', l', g', a', wd', hg', s', lo', hi', sl', fo', mv', di', qu') ∧ schI f' sl' fo' ∧ plX B 1 P ans st none := by
  obtain ⟨r, f', qd', sp', w', h', n', wl', t', k', p', l', g', a', wd', hg', s', lo', hi', sl', fo', mv', di', qu', e, sc, q⟩ := s_fault11 (sg := true) (all := false) h hP hc (most := 1) rfl hs qd sp w0 h0 n0 wl0 t0 k0 p0 l0 g0 a0 wd0 hg0 s0 low high mv di qu
  rw [show bI true = (1 : Int32) from rfl, show bI false = (0 : Int32) from rfl] at e
  unfold f_BargeBasin_fewestSteps_plan00_search11
  rw [ev_b _ e, un24_ap]
  rcases q with ⟨q1, q2⟩ | ⟨D, sx, q2⟩
  · subst q2
    rw [if_neg (show ¬ (10 : Int32) = 0 by decide)]
    exact ⟨_, _, _, _, _, _, _, _, _, _, _, _, _, _, _, _, _, _, _, _, _, _, _, _, _, rfl, sc, Or.inl ⟨q1, rfl, rfl, rfl⟩⟩
  · rcases s_core (sg := true) rfl sx.1 sx.2.1 q2 with ⟨z1, z2⟩ | ⟨z1, k, z2, -⟩
    · subst z1
      rw [if_neg (show ¬ (11 : Int32) = 0 by decide)]
      exact ⟨_, _, _, _, _, _, _, _, _, _, _, _, _, _, _, _, _, _, _, _, _, _, _, _, _, rfl, sc, z2⟩
    · exact absurd ⟨sx.1, k, z2.1⟩ hn
theorem s_fewestSteps_01_11 {B : Bas} {P : Nat → Nat} {cw chh cn : Int32} {cwl ct : Int64} {ck cp cl cg ca cwd chg : Nat → Int32} {cs : Nat → Int64} (h : basOk B) (hP : stC B P) (hc : chX B P cw chh cn cwl ct ck cp cl cg ca cwd chg cs) (hn : fnd B 1 P) {found : Int32} {slots for1 : Nat → Int32} (hs : schI found slots for1) (qd sp w0 h0 n0 : Int32) (wl0 t0 : Int64) (k0 p0 l0 g0 a0 wd0 hg0 : Nat → Int32) (s0 low high : Nat → Int64) (mv di qu : Nat → Int32) (status : Int32) :
    ∃ (ans st : Int32) (f' qd' sp' w' h' n' : Int32) (wl' t' : Int64) (k' p' l' g' a' wd' hg' : Nat → Int32) (s' lo' hi' : Nat → Int64) (sl' fo' mv' di' qu' : Nat → Int32) (ps' : Int32) (pm' : Nat → Int32) (cs' : List Nat), f_BargeBasin_fewestSteps_plan01_search11 status cw chh cn cwl ct ck cp cl cg ca cwd chg cs found qd sp w0 h0 n0 wl0 t0 k0 p0 l0 g0 a0 wd0 hg0 s0 low high slots for1 mv di qu = some (ans, st, f', qd', sp', w', h', n', wl', t', k', p', l', g', a', wd', hg', s', lo', hi', sl', fo', mv', di', qu', ps', pm') ∧ schI f' sl' fo' ∧ plX B 1 P ans st (some cs') ∧ ps' = nI cs'.length ∧ wrt pm' cs' ∧ cs'.length < 6000 := by
  obtain ⟨r, f', qd', sp', w', h', n', wl', t', k', p', l', g', a', wd', hg', s', lo', hi', sl', fo', mv', di', qu', e, sc, q⟩ := s_fault11 (sg := true) (all := false) h hP hc (most := 1) rfl hs qd sp w0 h0 n0 wl0 t0 k0 p0 l0 g0 a0 wd0 hg0 s0 low high mv di qu
  rw [show bI true = (1 : Int32) from rfl, show bI false = (0 : Int32) from rfl] at e
  unfold f_BargeBasin_fewestSteps_plan01_search11
  rw [ev_b _ e, un24_ap]
  rcases q with ⟨q1, q2⟩ | ⟨D, sx, q2⟩
  · have := hn.1; omega
  · rcases s_core (sg := true) rfl sx.1 sx.2.1 q2 with ⟨z1, z2⟩ | ⟨z1, k, z2, -⟩
    · exfalso
      obtain ⟨l, k, hk⟩ := hn
      rcases z2 with ⟨y, -⟩ | ⟨-, y, -⟩ | ⟨-, _, _, -, -, -, -, -, y⟩
      · omega
      · exact y k hk
      · cases y
    · subst z1
      obtain ⟨cs', t2, p2, mv2, pm2, e2, y1, y2, y3⟩ := s_core2 (sg := true) h rfl sx z2 t' p' mv' 0 (fun _ => 0)
      rw [show bI true = (1 : Int32) from rfl] at e2
      rw [if_pos rfl, ev_b _ (show f_BargeBasin_searcher_search11 = some () from rfl), un0_ap, ev_b _ (show f_BargeBasin_planToKeep_plan01 = some () from rfl), un0_ap, ev_b _ e2, un6_ap]
      exact ⟨_, _, _, _, _, _, _, _, _, _, _, _, _, _, _, _, _, _, _, _, _, _, _, _, _, _, _, cs', rfl, sc, y1, rfl, y2, y3⟩
theorem s_fewestSteps_11_11 {B : Bas} {P : Nat → Nat} {cw chh cn : Int32} {cwl ct : Int64} {ck cp cl cg ca cwd chg : Nat → Int32} {cs : Nat → Int64} (h : basOk B) (hP : stC B P) (hc : chX B P cw chh cn cwl ct ck cp cl cg ca cwd chg cs) {found : Int32} {slots for1 : Nat → Int32} (hs : schI found slots for1) (qd sp w0 h0 n0 : Int32) (wl0 t0 : Int64) (k0 p0 l0 g0 a0 wd0 hg0 : Nat → Int32) (s0 low high : Nat → Int64) (mv di qu : Nat → Int32) (status ps : Int32) (pm : Nat → Int32) :
    ∃ (ans st : Int32) (f' qd' sp' w' h' n' : Int32) (wl' t' : Int64) (k' p' l' g' a' wd' hg' : Nat → Int32) (s' lo' hi' : Nat → Int64) (sl' fo' mv' di' qu' : Nat → Int32) (ps' : Int32) (pm' : Nat → Int32) (new : Option (List Nat)), f_BargeBasin_fewestSteps_plan11_search11 status cw chh cn cwl ct ck cp cl cg ca cwd chg cs found qd sp w0 h0 n0 wl0 t0 k0 p0 l0 g0 a0 wd0 hg0 s0 low high slots for1 mv di qu ps pm = some (ans, st, f', qd', sp', w', h', n', wl', t', k', p', l', g', a', wd', hg', s', lo', hi', sl', fo', mv', di', qu', ps', pm') ∧ schI f' sl' fo' ∧ plX B 1 P ans st new ∧ (new = none → ps' = ps ∧ pm' = pm) ∧ (∀ cs', new = some cs' → ps' = nI cs'.length ∧ wrt pm' cs' ∧ cs'.length < 6000) := by
  obtain ⟨r, f', qd', sp', w', h', n', wl', t', k', p', l', g', a', wd', hg', s', lo', hi', sl', fo', mv', di', qu', e, sc, q⟩ := s_fault11 (sg := true) (all := false) h hP hc (most := 1) rfl hs qd sp w0 h0 n0 wl0 t0 k0 p0 l0 g0 a0 wd0 hg0 s0 low high mv di qu
  rw [show bI true = (1 : Int32) from rfl, show bI false = (0 : Int32) from rfl] at e
  unfold f_BargeBasin_fewestSteps_plan11_search11
  rw [ev_b _ e, un24_ap]
  rcases q with ⟨q1, q2⟩ | ⟨D, sx, q2⟩
  · subst q2
    rw [if_neg (show ¬ (10 : Int32) = 0 by decide)]
    exact ⟨_, _, _, _, _, _, _, _, _, _, _, _, _, _, _, _, _, _, _, _, _, _, _, _, _, _, _, none, rfl, sc, Or.inl ⟨q1, rfl, rfl, rfl⟩, fun _ => ⟨rfl, rfl⟩, fun c z => by cases z⟩
  · rcases s_core (sg := true) rfl sx.1 sx.2.1 q2 with ⟨z1, z2⟩ | ⟨z1, k, z2, -⟩
    · subst z1
      rw [if_neg (show ¬ (11 : Int32) = 0 by decide)]
      exact ⟨_, _, _, _, _, _, _, _, _, _, _, _, _, _, _, _, _, _, _, _, _, _, _, _, _, _, _, none, rfl, sc, z2, fun _ => ⟨rfl, rfl⟩, fun c z => by cases z⟩
    · subst z1
      obtain ⟨cs', t2, p2, mv2, pm2, e2, y1, y2, y3⟩ := s_core2 (sg := true) h rfl sx z2 t' p' mv' ps pm
      rw [show bI true = (1 : Int32) from rfl] at e2
      rw [if_pos rfl, ev_b _ (show f_BargeBasin_searcher_search11 = some () from rfl), un0_ap, ev_b _ (show f_BargeBasin_planToKeep_plan11 = some () from rfl), un0_ap, ev_b _ e2, un6_ap]
      exact ⟨_, _, _, _, _, _, _, _, _, _, _, _, _, _, _, _, _, _, _, _, _, _, _, _, _, _, _, some cs', rfl, sc, y1, fun z => by (cases z), fun c z => by cases z; exact ⟨rfl, y2, y3⟩⟩
theorem s_fewestSteps_00_01 {B : Bas} {P : Nat → Nat} {cw chh cn : Int32} {cwl ct : Int64} {ck cp cl cg ca cwd chg : Nat → Int32} {cs : Nat → Int64} (h : basOk B) (hP : stC B P) (hc : chX B P cw chh cn cwl ct ck cp cl cg ca cwd chg cs) (hn : ¬ fnd B 1 P) (status : Int32) :
    ∃ (ans st : Int32) (f' qd' sp' w' h' n' : Int32) (wl' t' : Int64) (k' p' l' g' a' wd' hg' : Nat → Int32) (s' lo' hi' : Nat → Int64) (sl' fo' mv' di' qu' : Nat → Int32), f_BargeBasin_fewestSteps_plan00_search01 status cw chh cn cwl ct ck cp cl cg ca cwd chg cs = some (ans, st, f', qd', sp', w', h', n', wl', t', k', p', l', g', a', wd', hg', s', lo', hi', sl', fo', mv', di', qu') ∧ schI f' sl' fo' ∧ plX B 1 P ans st none := by
  obtain ⟨r, f', qd', sp', w', h', n', wl', t', k', p', l', g', a', wd', hg', s', lo', hi', sl', fo', mv', di', qu', e, sc, q⟩ := s_fault11 (sg := true) (all := false) h hP hc (most := 1) rfl schI_0 0 0 0 0 0 0 0 (fun _ => 0) (fun _ => 0) (fun _ => 0) (fun _ => 0) (fun _ => 0) (fun _ => 0) (fun _ => 0) (fun _ => 0) (fun _ => 0) (fun _ => 0) (fun _ => 0) (fun _ => 0) (fun _ => 0)
  rw [show bI true = (1 : Int32) from rfl, show bI false = (0 : Int32) from rfl] at e
  unfold f_BargeBasin_fewestSteps_plan00_search01
  rw [s_fault01 (by rw [hc.1]; exact noBas h), ev_b _ e, un24_ap]
  rcases q with ⟨q1, q2⟩ | ⟨D, sx, q2⟩
  · subst q2
    rw [if_neg (show ¬ (10 : Int32) = 0 by decide)]
    exact ⟨_, _, _, _, _, _, _, _, _, _, _, _, _, _, _, _, _, _, _, _, _, _, _, _, _, rfl, sc, Or.inl ⟨q1, rfl, rfl, rfl⟩⟩
  · rcases s_core (sg := true) rfl sx.1 sx.2.1 q2 with ⟨z1, z2⟩ | ⟨z1, k, z2, -⟩
    · subst z1
      rw [if_neg (show ¬ (11 : Int32) = 0 by decide)]
      exact ⟨_, _, _, _, _, _, _, _, _, _, _, _, _, _, _, _, _, _, _, _, _, _, _, _, _, rfl, sc, z2⟩
    · exact absurd ⟨sx.1, k, z2.1⟩ hn
theorem s_fewestSteps_01_01 {B : Bas} {P : Nat → Nat} {cw chh cn : Int32} {cwl ct : Int64} {ck cp cl cg ca cwd chg : Nat → Int32} {cs : Nat → Int64} (h : basOk B) (hP : stC B P) (hc : chX B P cw chh cn cwl ct ck cp cl cg ca cwd chg cs) (hn : fnd B 1 P) (status : Int32) :
    ∃ (ans st : Int32) (f' qd' sp' w' h' n' : Int32) (wl' t' : Int64) (k' p' l' g' a' wd' hg' : Nat → Int32) (s' lo' hi' : Nat → Int64) (sl' fo' mv' di' qu' : Nat → Int32) (ps' : Int32) (pm' : Nat → Int32) (cs' : List Nat), f_BargeBasin_fewestSteps_plan01_search01 status cw chh cn cwl ct ck cp cl cg ca cwd chg cs = some (ans, st, f', qd', sp', w', h', n', wl', t', k', p', l', g', a', wd', hg', s', lo', hi', sl', fo', mv', di', qu', ps', pm') ∧ schI f' sl' fo' ∧ plX B 1 P ans st (some cs') ∧ ps' = nI cs'.length ∧ wrt pm' cs' ∧ cs'.length < 6000 := by
  obtain ⟨r, f', qd', sp', w', h', n', wl', t', k', p', l', g', a', wd', hg', s', lo', hi', sl', fo', mv', di', qu', e, sc, q⟩ := s_fault11 (sg := true) (all := false) h hP hc (most := 1) rfl schI_0 0 0 0 0 0 0 0 (fun _ => 0) (fun _ => 0) (fun _ => 0) (fun _ => 0) (fun _ => 0) (fun _ => 0) (fun _ => 0) (fun _ => 0) (fun _ => 0) (fun _ => 0) (fun _ => 0) (fun _ => 0) (fun _ => 0)
  rw [show bI true = (1 : Int32) from rfl, show bI false = (0 : Int32) from rfl] at e
  unfold f_BargeBasin_fewestSteps_plan01_search01
  rw [s_fault01 (by rw [hc.1]; exact noBas h), ev_b _ e, un24_ap]
  rcases q with ⟨q1, q2⟩ | ⟨D, sx, q2⟩
  · have := hn.1; omega
  · rcases s_core (sg := true) rfl sx.1 sx.2.1 q2 with ⟨z1, z2⟩ | ⟨z1, k, z2, -⟩
    · exfalso
      obtain ⟨l, k, hk⟩ := hn
      rcases z2 with ⟨y, -⟩ | ⟨-, y, -⟩ | ⟨-, _, _, -, -, -, -, -, y⟩
      · omega
      · exact y k hk
      · cases y
    · subst z1
      obtain ⟨cs', t2, p2, mv2, pm2, e2, y1, y2, y3⟩ := s_core2 (sg := true) h rfl sx z2 t' p' mv' 0 (fun _ => 0)
      rw [show bI true = (1 : Int32) from rfl] at e2
      rw [if_pos rfl, ev_b _ (show f_BargeBasin_searcher_search11 = some () from rfl), un0_ap, ev_b _ (show f_BargeBasin_planToKeep_plan01 = some () from rfl), un0_ap, ev_b _ e2, un6_ap]
      exact ⟨_, _, _, _, _, _, _, _, _, _, _, _, _, _, _, _, _, _, _, _, _, _, _, _, _, _, _, cs', rfl, sc, y1, rfl, y2, y3⟩
theorem s_fewestSteps_11_01 {B : Bas} {P : Nat → Nat} {cw chh cn : Int32} {cwl ct : Int64} {ck cp cl cg ca cwd chg : Nat → Int32} {cs : Nat → Int64} (h : basOk B) (hP : stC B P) (hc : chX B P cw chh cn cwl ct ck cp cl cg ca cwd chg cs) (status ps : Int32) (pm : Nat → Int32) :
    ∃ (ans st : Int32) (f' qd' sp' w' h' n' : Int32) (wl' t' : Int64) (k' p' l' g' a' wd' hg' : Nat → Int32) (s' lo' hi' : Nat → Int64) (sl' fo' mv' di' qu' : Nat → Int32) (ps' : Int32) (pm' : Nat → Int32) (new : Option (List Nat)), f_BargeBasin_fewestSteps_plan11_search01 status cw chh cn cwl ct ck cp cl cg ca cwd chg cs ps pm = some (ans, st, ps', pm', f', qd', sp', w', h', n', wl', t', k', p', l', g', a', wd', hg', s', lo', hi', sl', fo', mv', di', qu') ∧ schI f' sl' fo' ∧ plX B 1 P ans st new ∧ (new = none → ps' = ps ∧ pm' = pm) ∧ (∀ cs', new = some cs' → ps' = nI cs'.length ∧ wrt pm' cs' ∧ cs'.length < 6000) := by
  obtain ⟨r, f', qd', sp', w', h', n', wl', t', k', p', l', g', a', wd', hg', s', lo', hi', sl', fo', mv', di', qu', e, sc, q⟩ := s_fault11 (sg := true) (all := false) h hP hc (most := 1) rfl schI_0 0 0 0 0 0 0 0 (fun _ => 0) (fun _ => 0) (fun _ => 0) (fun _ => 0) (fun _ => 0) (fun _ => 0) (fun _ => 0) (fun _ => 0) (fun _ => 0) (fun _ => 0) (fun _ => 0) (fun _ => 0) (fun _ => 0)
  rw [show bI true = (1 : Int32) from rfl, show bI false = (0 : Int32) from rfl] at e
  unfold f_BargeBasin_fewestSteps_plan11_search01
  rw [s_fault01 (by rw [hc.1]; exact noBas h), ev_b _ e, un24_ap]
  rcases q with ⟨q1, q2⟩ | ⟨D, sx, q2⟩
  · subst q2
    rw [if_neg (show ¬ (10 : Int32) = 0 by decide)]
    exact ⟨_, _, _, _, _, _, _, _, _, _, _, _, _, _, _, _, _, _, _, _, _, _, _, _, _, _, _, none, rfl, sc, Or.inl ⟨q1, rfl, rfl, rfl⟩, fun _ => ⟨rfl, rfl⟩, fun c z => by cases z⟩
  · rcases s_core (sg := true) rfl sx.1 sx.2.1 q2 with ⟨z1, z2⟩ | ⟨z1, k, z2, -⟩
    · subst z1
      rw [if_neg (show ¬ (11 : Int32) = 0 by decide)]
      exact ⟨_, _, _, _, _, _, _, _, _, _, _, _, _, _, _, _, _, _, _, _, _, _, _, _, _, _, _, none, rfl, sc, z2, fun _ => ⟨rfl, rfl⟩, fun c z => by cases z⟩
    · subst z1
      obtain ⟨cs', t2, p2, mv2, pm2, e2, y1, y2, y3⟩ := s_core2 (sg := true) h rfl sx z2 t' p' mv' ps pm
      rw [show bI true = (1 : Int32) from rfl] at e2
      rw [if_pos rfl, ev_b _ (show f_BargeBasin_searcher_search11 = some () from rfl), un0_ap, ev_b _ (show f_BargeBasin_planToKeep_plan11 = some () from rfl), un0_ap, ev_b _ e2, un6_ap]
      exact ⟨_, _, _, _, _, _, _, _, _, _, _, _, _, _, _, _, _, _, _, _, _, _, _, _, _, _, _, some cs', rfl, sc, y1, fun z => by (cases z), fun c z => by cases z; exact ⟨rfl, y2, y3⟩⟩
