/-! explore, and faultOfSearch, of the class. -/
def chX (B : Bas) (P : Nat → Nat) (kw kh kn : Int32) (kwl kt : Int64) (kk kp kl kg ka kwd khg : Nat → Int32) (ks : Nat → Int64) : Prop :=
  kw = nI (bw B) ∧ kh = nI (bh B) ∧ kn = nI (bn B) ∧ chW B kwl ∧ chT B P kt ∧ chB B kk ka kwd khg ks ∧ chP B P kp ∧ (∀ b, b < bn B → kl b = nI (bS B b)) ∧ chG B kg
theorem chB_cg {B : Bas} {kk ka kw kh kk2 ka2 kw2 kh2 : Nat → Int32} {ks ks2 : Nat → Int64} (h : chB B kk ka kw kh ks) (e : ∀ b, b < bn B → kk2 b = kk b ∧ ka2 b = ka b ∧ kw2 b = kw b ∧ kh2 b = kh b ∧ ks2 b = ks b) : chB B kk2 ka2 kw2 kh2 ks2 := by
  intro b hb
  obtain ⟨e1, e2, e3, e4, e5⟩ := e b hb
  rw [e1, e2, e3, e4, e5]
  exact h b hb
theorem s_explore {B : Bas} {P : Nat → Nat} {cw chh cn : Int32} {cwl ct : Int64} {ck cp cl cg ca cwd chg : Nat → Int32} {cs : Nat → Int64} (h : basOk B) (hP : stC B P) (hc : chX B P cw chh cn cwl ct ck cp cl cg ca cwd chg cs) {found : Int32} {slots for1 : Nat → Int32} (hs : schI found slots for1) (sp w0 h0 n0 : Int32) (wl0 t0 : Int64) (k0 p0 l0 g0 a0 wd0 hg0 : Nat → Int32) (s0 low high : Nat → Int64) (mv : Nat → Int32) :
    ∃ (f' sp' : Int32) (t' : Int64) (k' p' l' g' a' wd' hg' : Nat → Int32) (s' lo' hi' : Nat → Int64) (sl' fo' mv' : Nat → Int32), f_Search_explore found sp w0 h0 n0 wl0 t0 k0 p0 l0 g0 a0 wd0 hg0 s0 low high slots for1 mv cw chh cn cwl ct ck cp cl cg ca cwd chg cs = some (bI (decide ((FL B 7 P).length ≤ 6000)), f', sp', nI (bw B), nI (bh B), nI (bn B), cwl, t', k', p', l', g', a', wd', hg', s', lo', hi', sl', fo', mv') ∧
      chB B k' a' wd' hg' s' ∧ chG B g' ∧ exS B (FL B 7 P) f' sp' lo' hi' sl' fo' := by
  obtain ⟨c1, c2, c3, c4, c5, c6, c7, c8, c9⟩ := hc
  subst c1; subst c2; subst c3
  obtain ⟨sl1, e1, z1⟩ := s_clear (ksp := sp) hs
  obtain ⟨k1, p1, l1, g1, a1, wd1, hg1, s1, e2, q2⟩ := s_copyFrom (n := bn B) (b2 := nI (bw B)) (d2 := nI (bh B)) (c2 := nI (bn B)) (w2 := cwl) (t2 := ct) (k2 := ck) (p2 := cp) (l2 := cl) (g2 := cg) (a2 := ca) (wd2 := cwd) (hg2 := chg) (s2 := cs) h.2.2.2.2.1 (fun b hb => by rw [(c6 b hb).2.1]; exact nar_bI _) w0 h0 n0 wl0 t0 k0 p0 l0 g0 a0 wd0 hg0 s0 rfl
  have cb : chB B k1 a1 wd1 hg1 s1 := chB_cg c6 (fun b hb => by obtain ⟨y1, y2, y3, y4, y5, y6, y7, y8⟩ := q2 b hb; exact ⟨y1, y5, y6, y7, y8⟩)
  have cp1 : chP B P p1 := fun b hb => by rw [(q2 b hb).2.1]; exact c7 b hb
  have cg1 : chG B g1 := fun b hb h5 => by rw [(q2 b hb).2.2.2.1]; exact c9 b hb h5
  obtain ⟨f2, sp2, a2, b2, d2, o2, e3, x3⟩ := s_meetStart (klow := low) (khigh := high) (kfor := for1) h hP cp1 z1
  obtain ⟨f, s, t, p, a, b, c, d, m, e4, x4⟩ := s_exL18 (v0 := P) h cb c4 6000 0 jN f2 sp2 ct p1 a2 b2 d2 o2 mv (by omega) (by decide) x3
  have x5 : exS B (FL B 7 P) f s a b c d := x4
  refine ⟨f, s, t, k1, p, l1, g1, a1, wd1, hg1, s1, a, b, c, d, m, ?_, cb, cg1, x5⟩
  unfold f_Search_explore
  rw [nI_0] at e4
  rw [ev_b _ e1, un3_ap, ev_b _ e2, un13_ap, ev_b _ e3, un6_ap, ev_b _ e4, un9_ap]
  rcases x5 with ⟨y1, -, y3⟩ | ⟨y1, y2, -⟩
  · rw [if_pos y1, decide_eq_true y3.1]; rfl
  · rw [if_neg (by rw [y1]; decide), decide_eq_false (by omega)]; rfl
theorem noBas {B : Bas} (h : basOk B) : f_BargeBasin_hasNoBasin (nI (bw B)) = some 0 := by
  unfold f_BargeBasin_hasNoBasin
  have := h.1
  have := h.2.1
  rw [if_neg]
  exact nI_ne0 (by omega) (by omega)
/-- what the search holds where it didn't spend itself -/
def srX (B : Bas) (P : Nat → Nat) (most : Nat) (D : Nat → Option Nat) (f w hh n : Int32) (wl : Int64) (k g a wd hg : Nat → Int32) (s lo hi : Nat → Int64) (sl fo dist : Nat → Int32) : Prop :=
  (FL B 7 P).length ≤ 6000 ∧ distOk (FL B 7 P).length (edL B (FL B 7 P) most) (frL B (FL B 7 P)) D ∧ dR (FL B 7 P).length dist D ∧ (∀ u k, u < (FL B 7 P).length → D u = some k → k < (FL B 7 P).length) ∧ f = nI (FL B 7 P).length ∧ tab B (FL B 7 P) lo hi sl fo ∧ w = nI (bw B) ∧ hh = nI (bh B) ∧ n = nI (bn B) ∧ chW B wl ∧ chB B k a wd hg s ∧ chG B g
theorem s_fault11 {B : Bas} {P : Nat → Nat} {sg all : Bool} {most : Nat} {cw chh cn : Int32} {cwl ct : Int64} {ck cp cl cg ca cwd chg : Nat → Int32} {cs : Nat → Int64} (h : basOk B) (hP : stC B P) (hc : chX B P cw chh cn cwl ct ck cp cl cg ca cwd chg cs) (hmost : most = if sg then 1 else 7) {found : Int32} {slots for1 : Nat → Int32} (hs : schI found slots for1) (qd sp w0 h0 n0 : Int32) (wl0 t0 : Int64) (k0 p0 l0 g0 a0 wd0 hg0 : Nat → Int32) (s0 low high : Nat → Int64) (mv di qu : Nat → Int32) :
    ∃ (r f' qd' sp' w' h' n' : Int32) (wl' t' : Int64) (k' p' l' g' a' wd' hg' : Nat → Int32) (s' lo' hi' : Nat → Int64) (sl' fo' mv' di' qu' : Nat → Int32), f_BargeBasin_faultOfSearch_search11 (bI sg) (bI all) cw chh cn cwl ct ck cp cl cg ca cwd chg cs found qd sp w0 h0 n0 wl0 t0 k0 p0 l0 g0 a0 wd0 hg0 s0 low high slots for1 mv di qu = some (r, f', qd', sp', w', h', n', wl', t', k', p', l', g', a', wd', hg', s', lo', hi', sl', fo', mv', di', qu') ∧ schI f' sl' fo' ∧
      ((6000 < (FL B 7 P).length ∧ r = 10) ∨ ∃ D, srX B P most D f' w' h' n' wl' k' g' a' wd' hg' s' lo' hi' sl' fo' di' ∧ r = (if (if all then bestO D (FL B 7 P).length else D 0) = none then 11 else 0)) := by
  obtain ⟨f1, sp1, t1, k1, p1, l1, g1, a1, wd1, hg1, s1, lo1, hi1, sl1, fo1, mv1, e1, cb, cg1, x1⟩ := s_explore h hP hc hs sp w0 h0 n0 wl0 t0 k0 p0 l0 g0 a0 wd0 hg0 s0 low high mv
  have sc := exS_sch x1
  unfold f_BargeBasin_faultOfSearch_search11 f_BargeBasin_searcher_search11
  rw [show f_BargeBasin_hasNoBasin cw = some 0 by rw [hc.1]; exact noBas h, ev_b _ rfl, if_pos rfl, ev_b _ rfl, un0_ap, ev_b _ e1, un21_ap]
  by_cases c : (FL B 7 P).length ≤ 6000
  · rw [decide_eq_true c, if_neg (show ¬ bI true = 0 by decide)]
    rcases x1 with ⟨y1, y2, y3⟩ | ⟨-, y2, -⟩
    · subst y2
      obtain ⟨qd2, t2, p2, mv2, di2, qu2, D, e2, d1, d2, d3⟩ := s_measure (sg := sg) h y3 FL_nd cb cg1 hc.2.2.2.1 hmost qd t1 p1 mv1 di qu
      obtain ⟨z0, -⟩ := FL_0 (B := B) (most := 7) (P := P)
      have sx : srX B P most D (nI (FL B 7 P).length) (nI (bw B)) (nI (bh B)) (nI (bn B)) cwl k1 g1 a1 wd1 hg1 s1 lo1 hi1 sl1 fo1 di2 := ⟨c, d1, d2, d3, rfl, y3, rfl, rfl, rfl, hc.2.2.2.1, cb, cg1⟩
      rw [ev_b _ e2, un6_ap]
      have d31 : ∀ u k, u < (FL B 7 P).length → D u = some k → k < 2 ^ 31 := fun u k hu e => by have := d3 u k hu e; omega
      cases all with
      | false =>
        have fo := s_farOf (o := some 0) c d2 (fun u hu => by cases hu; exact z0)
        rw [show (some 0).bind D = D 0 from rfl] at fo
        rw [if_pos (show bI false = 0 by decide), ev_b _ (show f_Search_farOf 0 (nI (FL B 7 P).length) di2 = _ from fo)]
        simp only [oI_pos (fun k hk => d31 0 k z0 hk)]
        by_cases e : D 0 = none
        · rw [if_neg (fun z => z e)]
          exact ⟨_, _, _, _, _, _, _, _, _, _, _, _, _, _, _, _, _, _, _, _, _, _, _, _, rfl, sc, Or.inr ⟨D, sx, by simp [e]⟩⟩
        · rw [if_pos e]
          exact ⟨_, _, _, _, _, _, _, _, _, _, _, _, _, _, _, _, _, _, _, _, _, _, _, _, rfl, sc, Or.inr ⟨D, sx, by simp [e]⟩⟩
      | true =>
        have ft := s_farthest c d2 d31
        have on : ((bestO D (FL B 7 P).length).bind D = none) = (bestO D (FL B 7 P).length = none) := by
          refine propext ⟨fun z => ?_, fun z => by rw [z]; rfl⟩
          cases e : bestO D (FL B 7 P).length with
          | none => rfl
          | some b =>
            rw [e] at z
            exact absurd z (bestO_lt e).2
        rw [if_neg (show ¬ bI true = 0 by decide), ev_b _ ft]
        have sm : ∀ k, (bestO D (FL B 7 P).length).bind D = some k → k < 2 ^ 31 := by
          intro k hk
          cases e : bestO D (FL B 7 P).length with
          | none => rw [e] at hk; cases hk
          | some b =>
            rw [e] at hk
            exact d31 b k (bestO_lt e).1 hk
        simp only [oI_pos sm, on]
        by_cases e : bestO D (FL B 7 P).length = none
        · rw [if_neg (fun z => z e)]
          exact ⟨_, _, _, _, _, _, _, _, _, _, _, _, _, _, _, _, _, _, _, _, _, _, _, _, rfl, sc, Or.inr ⟨D, sx, by simp [e]⟩⟩
        · rw [if_pos e]
          exact ⟨_, _, _, _, _, _, _, _, _, _, _, _, _, _, _, _, _, _, _, _, _, _, _, _, rfl, sc, Or.inr ⟨D, sx, by simp [e]⟩⟩
    · omega
  · rw [decide_eq_false c, if_pos (show bI false = 0 by decide)]
    exact ⟨_, _, _, _, _, _, _, _, _, _, _, _, _, _, _, _, _, _, _, _, _, _, _, _, rfl, sc, Or.inl ⟨by omega, rfl⟩⟩
theorem schI_0 : schI 0 (fun _ => 0) (fun _ => 0) := ⟨[], by simp, rfl, (tab_nil (B := (0, 0, 0, fun _ => 0, fun _ => 0, fun _ => 0, fun _ => 0, fun _ => false)) (klow := fun _ => 0) (khigh := fun _ => 0) (fun _ _ => rfl)).2.2.2⟩
theorem s_init01 : f_BargeBasin_searcher_search01 = some () := by
  unfold f_BargeBasin_searcher_search01
  decide +kernel
theorem s_fault01 {v1 v2 cw chh cn : Int32} {cwl ct : Int64} {ck cp cl cg ca cwd chg : Nat → Int32} {cs : Nat → Int64} (hb : f_BargeBasin_hasNoBasin cw = some 0) : f_BargeBasin_faultOfSearch_search01 v1 v2 cw chh cn cwl ct ck cp cl cg ca cwd chg cs = f_BargeBasin_faultOfSearch_search11 v1 v2 cw chh cn cwl ct ck cp cl cg ca cwd chg cs 0 0 0 0 0 0 0 0 (fun _ => 0) (fun _ => 0) (fun _ => 0) (fun _ => 0) (fun _ => 0) (fun _ => 0) (fun _ => 0) (fun _ => 0) (fun _ => 0) (fun _ => 0) (fun _ => 0) (fun _ => 0) (fun _ => 0) (fun _ => 0) (fun _ => 0) := by
  unfold f_BargeBasin_faultOfSearch_search01 f_BargeBasin_faultOfSearch_search11 f_BargeBasin_searcher_search11
  rw [ev_b _ hb, ev_b _ hb, if_pos rfl, if_pos rfl, ev_b _ s_init01, ev_b _ rfl]
