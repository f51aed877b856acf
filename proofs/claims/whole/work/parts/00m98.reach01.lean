/-! reach of the class, where no search was made yet. -/
theorem s_reach_01 {B : Bas} {P : Nat → Nat} {cw chh cn : Int32} {cwl ct : Int64} {ck cp cl cg ca cwd chg : Nat → Int32} {cs : Nat → Int64} (h : basOk B) (hP : stC B P) (hc : chX B P cw chh cn cwl ct ck cp cl cg ca cwd chg cs) (status : Int32) :
    ∃ (ans st : Int32) (f' sp' w' h' n' : Int32) (wl' t' : Int64) (k' p' l' g' a' wd' hg' : Nat → Int32) (s' lo' hi' : Nat → Int64) (sl' fo' mv' : Nat → Int32), f_BargeBasin_reach_search01 status cw chh cn cwl ct ck cp cl cg ca cwd chg cs = some (ans, st, f', sp', w', h', n', wl', t', k', p', l', g', a', wd', hg', s', lo', hi', sl', fo', mv') ∧ schI f' sl' fo' ∧ reachX B P ans st := by
  obtain ⟨f1, sp1, t1, k1, p1, l1, g1, a1, wd1, hg1, s1, lo1, hi1, sl1, fo1, mv1, e1, cb, cg1, x1⟩ := s_explore h hP hc schI_0 0 0 0 0 0 0 (fun _ => 0) (fun _ => 0) (fun _ => 0) (fun _ => 0) (fun _ => 0) (fun _ => 0) (fun _ => 0) (fun _ => 0) (fun _ => 0) (fun _ => 0) (fun _ => 0)
  have sc := exS_sch x1
  unfold f_BargeBasin_reach_search01
  rw [show f_BargeBasin_hasNoBasin cw = some 0 by rw [hc.1]; exact noBas h, ev_b _ rfl, if_pos rfl, ev_b _ (show f_BargeBasin_searcher_search01 = some () from rfl), un0_ap, ev_b _ e1, un21_ap]
  by_cases c : (FL B 7 P).length ≤ 6000
  · rw [decide_eq_true c, if_neg (show ¬ bI true = 0 by decide)]
    refine ⟨_, _, _, _, _, _, _, _, _, _, _, _, _, _, _, _, _, _, _, _, _, _,  rfl, sc, Or.inl ⟨c, ?_, rfl⟩⟩
    rcases x1 with ⟨-, y2, -⟩ | ⟨-, y2, -⟩
    · exact y2
    · omega
  · rw [decide_eq_false c, if_pos (show bI false = 0 by decide)]
    exact ⟨_, _, _, _, _, _, _, _, _, _, _, _, _, _, _, _, _, _, _, _, _, _,  rfl, sc, Or.inr ⟨by omega, rfl, rfl⟩⟩
