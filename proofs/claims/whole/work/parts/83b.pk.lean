theorem pk_status {o : qO} {ln : qL} {c : qC} {tr : qC} {g : qG} {sh : qQ} {sw : qF} {mi : q_mi} {mw : q_mw} {mp : q_mp} {ml : q_ml} {mb : q_mb} {mu : q_mu} {ms : q_ms} {mk : q_mk} {mo : q_mo} {mt : q_mt} (hB : lwB o ln c g sw mi mw ml mb mu mo)  : ∃ (r0 : Int32) (k_thrown₉₉ : Int32), f_BargeBasin_status o.2.1 = some r0 ∧ f_BargeBasinModel_status mi.1 mi.2.1 = some (r0, k_thrown₉₉) ∧ lwB o ln c g sw (mi.1, k_thrown₉₉, mi.2.2.1, mi.2.2.2.1, mi.2.2.2.2.1, mi.2.2.2.2.2.1, mi.2.2.2.2.2.2.1, mi.2.2.2.2.2.2.2) mw ml mb mu mo := by
  obtain ⟨iS, iW, iB, iO⟩ := hB
  obtain ⟨m0, mr⟩ := mi
  replace iS : m0 = o.2.1 := iS
  subst iS
  exact ⟨_, _, rfl, rfl, rfl, iW, iB, iO⟩
theorem pk_why {o : qO} {ln : qL} {c : qC} {tr : qC} {g : qG} {sh : qQ} {sw : qF} {mi : q_mi} {mw : q_mw} {mp : q_mp} {ml : q_ml} {mb : q_mb} {mu : q_mu} {ms : q_ms} {mk : q_mk} {mo : q_mo} {mt : q_mt} (hB : lwB o ln c g sw mi mw ml mb mu mo) (v1 : Int32) : ∃ (r0 : Int32) (k_thrown₉₉ : Int32), f_BargeBasin_why v1 o.2.2.1 o.2.2.2.1 o.2.2.2.2 = some r0 ∧ f_BargeBasinModel_why v1 mi.2.1 mw.1 mw.2.1 mw.2.2 = some (r0, k_thrown₉₉) ∧ lwB o ln c g sw (mi.1, k_thrown₉₉, mi.2.2.1, mi.2.2.2.1, mi.2.2.2.2.1, mi.2.2.2.2.2.1, mi.2.2.2.2.2.2.1, mi.2.2.2.2.2.2.2) mw ml mb mu mo := by
  obtain ⟨iS, iW, iB, iO⟩ := hB
  subst iW
  obtain ⟨r, e1, e2⟩ := eq_why v1 o.2.2.1 o.2.2.2.1 o.2.2.2.2 mi.2.1
  exact ⟨_, _, e1, e2, iS, rfl, iB, iO⟩
theorem pk_get {o : qO} {ln : qL} {c : qC} {tr : qC} {g : qG} {sh : qQ} {sw : qF} {mi : q_mi} {mw : q_mw} {mp : q_mp} {ml : q_ml} {mb : q_mb} {mu : q_mu} {ms : q_ms} {mk : q_mk} {mo : q_mo} {mt : q_mt} (hB : lwB o ln c g sw mi mw ml mb mu mo) (v1 : Int32) (v2 : Int32) : ∃ (r0 : Int32) (k_status₉ : Int32) (k_status₉₉ : Int32) (k_thrown₉₉ : Int32), f_BargeBasin_get v1 v2 o.2.1 ln.1 ln.2.1 ln.2.2.1 c.1 c.2.1 = some (r0, k_status₉) ∧ f_BargeBasinModel_get v1 v2 mi.1 mi.2.1 mi.2.2.1 mi.2.2.2.2.1 ml.2.1 ml.2.2.1 = some (r0, k_status₉₉, k_thrown₉₉) ∧ lwB (o.1, k_status₉, o.2.2.1, o.2.2.2.1, o.2.2.2.2) ln c g sw (k_status₉₉, k_thrown₉₉, mi.2.2.1, mi.2.2.2.1, mi.2.2.2.2.1, mi.2.2.2.2.2.1, mi.2.2.2.2.2.2.1, mi.2.2.2.2.2.2.2) mw ml mb mu mo := by
  obtain ⟨iS, iW, iB, iO⟩ := hB
  rcases iB with ⟨h0, h1, h9⟩ | ⟨X, hX, hc, hr, hg, hn⟩
  · obtain ⟨cw0, cr⟩ := c
    obtain ⟨m0, m1, mh, mr⟩ := mi
    replace h0 : cw0 = 0 := h0
    replace h1 : mh = 0 := h1
    subst h0
    subst h1
    exact ⟨_, _, _, _, (nb_BargeBasin_get _ _ _ _ _ _ _), (nb_BargeBasinModel_get _ _ _ _ _ _ _), rfl, iW, Or.inl ⟨rfl, rfl, h9⟩, iO⟩
  · obtain ⟨ans, st₉, e1, e2⟩ := eq_get hX.1 hn v1 v2 o.2.1 mi.1 mi.2.1
    rw [← hc.1, ← hc.2.1] at e1
    rw [← hr.2.2.1] at e2
    have e3 : mi.2.2.1 = 1 := hr.1
    have e4 : f_BargeBasinModel_get v1 v2 mi.1 mi.2.1 mi.2.2.1 mi.2.2.2.2.1 ml.2.1 ml.2.2.1 = some (ans, st₉, 0) := by rw [e3]; exact e2
    exact ⟨_, _, _, _, e1, e4, rfl, iW, Or.inr ⟨X, hX, hc, hr, hg, hn⟩, iO⟩
theorem pk_basin {o : qO} {ln : qL} {c : qC} {tr : qC} {g : qG} {sh : qQ} {sw : qF} {mi : q_mi} {mw : q_mw} {mp : q_mp} {ml : q_ml} {mb : q_mb} {mu : q_mu} {ms : q_ms} {mk : q_mk} {mo : q_mo} {mt : q_mt} (hB : lwB o ln c g sw mi mw ml mb mu mo) (v1 : Int32) (v2 : Int32) : ∃ (r0 : Int32) (k_status₉ : Int32) (k_lines_sort₉ : Nat → Int32) (k_chart_width₉ : Int32) (k_chart_height₉ : Int32) (k_chart_barges₉ : Int32) (k_chart_walls₉ : Int64) (k_chart_taken₉ : Int64) (k_log_done₉ : Int32) (k_log_undone₉ : Int32) (k_status₉₉ : Int32) (k_thrown₉₉ : Int32) (k_has₉₉ : Int32) (k_width₉₉ : Int32) (k_height₉₉ : Int32) (k_barges₉₉ : Int32) (k_undoMany₉₉ : Int32) (k_redoMany₉₉ : Int32) (k_lineMany₉₉ : Nat → Int32) (k_wall₉₉ : Nat → Int32), f_BargeBasin_basin v1 v2 o.2.1 ln.1 c.1 c.2.1 c.2.2.1 c.2.2.2.1 c.2.2.2.2.1 g.2.1 g.2.2.1 = some (r0, k_status₉, k_lines_sort₉, k_chart_width₉, k_chart_height₉, k_chart_barges₉, k_chart_walls₉, k_chart_taken₉, k_log_done₉, k_log_undone₉) ∧ f_BargeBasinModel_basin v1 v2 mi.1 mi.2.1 mi.2.2.1 mi.2.2.2.1 mi.2.2.2.2.1 mi.2.2.2.2.2.1 mi.2.2.2.2.2.2.1 mi.2.2.2.2.2.2.2 ml.2.1 ml.2.2.2 = some (r0, k_status₉₉, k_thrown₉₉, k_has₉₉, k_width₉₉, k_height₉₉, k_barges₉₉, k_undoMany₉₉, k_redoMany₉₉, k_lineMany₉₉, k_wall₉₉) ∧ lwB (o.1, k_status₉, o.2.2.1, o.2.2.2.1, o.2.2.2.2) (k_lines_sort₉, ln.2.1, ln.2.2.1, ln.2.2.2) (k_chart_width₉, k_chart_height₉, k_chart_barges₉, k_chart_walls₉, k_chart_taken₉, c.2.2.2.2.2.1, c.2.2.2.2.2.2.1, c.2.2.2.2.2.2.2.1, c.2.2.2.2.2.2.2.2.1, c.2.2.2.2.2.2.2.2.2.1, c.2.2.2.2.2.2.2.2.2.2.1, c.2.2.2.2.2.2.2.2.2.2.2.1, c.2.2.2.2.2.2.2.2.2.2.2.2) (g.1, k_log_done₉, k_log_undone₉, g.2.2.2) sw (k_status₉₉, k_thrown₉₉, k_has₉₉, k_width₉₉, k_height₉₉, k_barges₉₉, k_undoMany₉₉, k_redoMany₉₉) mw (ml.1, k_lineMany₉₉, ml.2.2.1, k_wall₉₉) mb mu mo := by
  obtain ⟨iS, iW, iB, iO⟩ := hB
  obtain ⟨f, f1, f2⟩ := bas_first iB
  rcases eq_basin v1 v2 o.2.1 ln.1 c.1 c.2.1 c.2.2.1 c.2.2.2.1 c.2.2.2.2.1 g.2.1 g.2.2.1 mi.1 mi.2.1 mi.2.2.1 mi.2.2.2.1 mi.2.2.2.2.1 mi.2.2.2.2.2.1 mi.2.2.2.2.2.2.1 mi.2.2.2.2.2.2.2 ml.2.1 ml.2.2.2 with ⟨w, hh, w1, w2, w3, w4, rfl, rfl, e1, e2⟩ | ⟨e1, e2⟩
  · exact ⟨_, _, _, _, _, _, _, _, _, _, _, _, _, _, _, _, _, _, _, _, e1, e2, rfl, iW, Or.inr ⟨(empB w hh, fun _ => 0), ⟨emp_bas w1 w2 w3 w4, emp_st, (emp_ln w4 ln.1 ln.2.1 ln.2.2.1 ml.1 ml.2.1 ml.2.2.1).2.2.1⟩, emp_ch _ _ _ _ _ _ _ _, emp_rf _ _ _ _ _ _, lg_new f1 f2 emp_st, emp_ln w4 _ _ _ _ _ _⟩, iO⟩
  · exact ⟨_, _, _, _, _, _, _, _, _, _, _, _, _, _, _, _, _, _, _, _, e1, e2, rfl, iW, iB, iO⟩
theorem pk_planned_plan00 {o : qO} {ln : qL} {c : qC} {tr : qC} {g : qG} {sh : qQ} {sw : qF} {mi : q_mi} {mw : q_mw} {mp : q_mp} {ml : q_ml} {mb : q_mb} {mu : q_mu} {ms : q_ms} {mk : q_mk} {mo : q_mo} {mt : q_mt} (hB : lwB o ln c g sw mi mw ml mb mu mo) (hp0 : mp.1 = 0) (v1 : Int32) (v2 : Int32) : ∃ (r0 : Int32) (k_thrown₉₉ : Int32), f_BargeBasin_planned_plan00 v1 v2 = some r0 ∧ f_BargeBasinModel_planned v1 v2 mi.2.1 mp.1 mp.2.1 mp.2.2.1 mp.2.2.2.1 mp.2.2.2.2 = some (r0, k_thrown₉₉) ∧ lwB o ln c g sw (mi.1, k_thrown₉₉, mi.2.2.1, mi.2.2.2.1, mi.2.2.2.2.1, mi.2.2.2.2.2.1, mi.2.2.2.2.2.2.1, mi.2.2.2.2.2.2.2) mw ml mb mu mo := by
  obtain ⟨iS, iW, iB, iO⟩ := hB
  obtain ⟨p0, pr⟩ := mp
  replace hp0 : p0 = 0 := hp0
  subst hp0
  exact ⟨_, _, rfl, rfl, iS, iW, iB, iO⟩
theorem pk_planned_plan11 {o : qO} {ln : qL} {c : qC} {tr : qC} {g : qG} {sh : qQ} {sw : qF} {mi : q_mi} {mw : q_mw} {mp : q_mp} {ml : q_ml} {mb : q_mb} {mu : q_mu} {ms : q_ms} {mk : q_mk} {mo : q_mo} {mt : q_mt} {pv : qP} (hB : lwB o ln c g sw mi mw ml mb mu mo) {l : List Nat} (hp : plS l pv mp) (v1 : Int32) (v2 : Int32) : ∃ (r0 : Int32) (k_thrown₉₉ : Int32), f_BargeBasin_planned_plan11 v1 v2 pv.1 pv.2 = some r0 ∧ f_BargeBasinModel_planned v1 v2 mi.2.1 mp.1 mp.2.1 mp.2.2.1 mp.2.2.2.1 mp.2.2.2.2 = some (r0, k_thrown₉₉) ∧ lwB o ln c g sw (mi.1, k_thrown₉₉, mi.2.2.1, mi.2.2.2.1, mi.2.2.2.2.1, mi.2.2.2.2.2.1, mi.2.2.2.2.2.2.1, mi.2.2.2.2.2.2.2) mw ml mb mu mo := by
  obtain ⟨iS, iW, iB, iO⟩ := hB
  obtain ⟨r, e1, e2⟩ := eq_planned hp v1 v2 mi.2.1
  exact ⟨_, _, e1, e2, iS, iW, iB, iO⟩
theorem pk_follow_plan11 {o : qO} {ln : qL} {c : qC} {tr : qC} {g : qG} {sh : qQ} {sw : qF} {mi : q_mi} {mw : q_mw} {mp : q_mp} {ml : q_ml} {mb : q_mb} {mu : q_mu} {ms : q_ms} {mk : q_mk} {mo : q_mo} {mt : q_mt} {pv : qP} (hB : lwB o ln c g sw mi mw ml mb mu mo) {l : List Nat} (hp : plS l pv mp) (v1 : Int32) (v2 : Int32) : ∃ (r0 : Int32) (k_status₉ : Int32) (k_chart_taken₉ : Int64) (k_chart_place₉ : Nat → Int32) (k_log_first₉ : Int32) (k_log_done₉ : Int32) (k_log_undone₉ : Int32) (k_log_moves₉ : Nat → Int32) (k_status₉₉ : Int32) (k_thrown₉₉ : Int32) (k_undoMany₉₉ : Int32) (k_redoMany₉₉ : Int32) (k_whyStep₉₉ : Int32) (k_whyWhat₉₉ : Int32) (k_whyWho₉₉ : Int32) (k_at₉₉ : Nat → Int32) (k_undoBarge₉₉ : Nat → Int32) (k_undoFrom₉₉ : Nat → Int32) (k_undoTo₉₉ : Nat → Int32) (k_who₉₉ : Nat → Int32) (k_here₉₉ : Nat → Int32), f_BargeBasin_follow_plan11 v1 v2 o.2.1 c.1 c.2.1 c.2.2.1 c.2.2.2.1 c.2.2.2.2.1 c.2.2.2.2.2.1 c.2.2.2.2.2.2.1 c.2.2.2.2.2.2.2.2.2.1 c.2.2.2.2.2.2.2.2.2.2.1 c.2.2.2.2.2.2.2.2.2.2.2.1 c.2.2.2.2.2.2.2.2.2.2.2.2 g.1 g.2.1 g.2.2.1 g.2.2.2 pv.1 pv.2 = some (r0, k_status₉, k_chart_taken₉, k_chart_place₉, k_log_first₉, k_log_done₉, k_log_undone₉, k_log_moves₉) ∧ f_BargeBasinModel_follow v1 v2 mi.1 mi.2.1 mi.2.2.1 mi.2.2.2.1 mi.2.2.2.2.1 mi.2.2.2.2.2.1 mi.2.2.2.2.2.2.1 mi.2.2.2.2.2.2.2 mw.1 mw.2.1 mw.2.2 mp.1 mp.2.1 ml.2.2.2 mb.1 mb.2.1 mb.2.2.1 mb.2.2.2.1 mu.1 mu.2.1 mu.2.2.1 mp.2.2.1 mp.2.2.2.1 mp.2.2.2.2 mt.2.2.2.1 mt.2.2.2.2.1 = some (r0, k_status₉₉, k_thrown₉₉, k_undoMany₉₉, k_redoMany₉₉, k_whyStep₉₉, k_whyWhat₉₉, k_whyWho₉₉, k_at₉₉, k_undoBarge₉₉, k_undoFrom₉₉, k_undoTo₉₉, k_who₉₉, k_here₉₉) ∧ lwB (o.1, k_status₉, o.2.2.1, o.2.2.2.1, o.2.2.2.2) ln (c.1, c.2.1, c.2.2.1, c.2.2.2.1, k_chart_taken₉, c.2.2.2.2.2.1, k_chart_place₉, c.2.2.2.2.2.2.2.1, c.2.2.2.2.2.2.2.2.1, c.2.2.2.2.2.2.2.2.2.1, c.2.2.2.2.2.2.2.2.2.2.1, c.2.2.2.2.2.2.2.2.2.2.2.1, c.2.2.2.2.2.2.2.2.2.2.2.2) (k_log_first₉, k_log_done₉, k_log_undone₉, k_log_moves₉) sw (k_status₉₉, k_thrown₉₉, mi.2.2.1, mi.2.2.2.1, mi.2.2.2.2.1, mi.2.2.2.2.2.1, k_undoMany₉₉, k_redoMany₉₉) (k_whyStep₉₉, k_whyWhat₉₉, k_whyWho₉₉) ml (mb.1, k_at₉₉, mb.2.2.1, mb.2.2.2.1, mb.2.2.2.2) (k_undoBarge₉₉, k_undoFrom₉₉, k_undoTo₉₉, mu.2.2.2.1, mu.2.2.2.2.1, mu.2.2.2.2.2) mo := by
  obtain ⟨iS, iW, iB, iO⟩ := hB
  rcases iB with ⟨h0, h1, h9⟩ | ⟨X, hX, hc, hr, hg, hn⟩
  · obtain ⟨cw0, cr⟩ := c
    obtain ⟨m0, m1, mh, mr⟩ := mi
    replace h0 : cw0 = 0 := h0
    replace h1 : mh = 0 := h1
    subst h0
    subst h1
    exact ⟨_, _, _, _, _, _, _, _, _, _, _, _, _, _, _, _, _, _, _, _, _, (nb_BargeBasin_follow_plan11 _ _ _ _ _ _ _ _ _ _ _ _ _ _ _ _ _ _ _), (nb_BargeBasinModel_follow _ _ _ _ _ _ _ _ _ _ _ _ _ _ _ _ _ _ _ _ _ _ _ _ _ _ _), rfl, iW, Or.inl ⟨rfl, rfl, h9⟩, iO⟩
  · obtain ⟨ans, st₉, ct₉, cp₉, lf₉, ld₉, lu₉, lm₉, um₉, rm₉, kat₉, ub₉, uf₉, ut₉, kwho₉, khe₉, Q, e1, e2, q1, q2, q3, q4, q5⟩ := eq_follow hX.1 hX.2.1 hc hr hg hp v1 v2 o.2.1 mi.1 mi.2.1 mw.1 mw.2.1 mw.2.2 mt.2.2.2.1 mt.2.2.2.2.1
    exact ⟨_, _, _, _, _, _, _, _, _, _, _, _, _, _, _, _, _, _, _, _, _, e1, e2, rfl, iW, Or.inr ⟨(X.1, Q), ⟨hX.1, q1, hX.2.2⟩, ch_mv hc q2 q3, rf_mv hr q4, q5, hn⟩, iO⟩
theorem fo_x {B : Bas} (h : basOk B) (v1 v2 st : Int32) : f_BargeBasin_follow_plan00 v1 v2 st (nI (bw B)) = some (-1, if v1 < 0 then 2 else if 0 ≤ v2 then 11 else 2) := by
  unfold f_BargeBasin_follow_plan00
  rw [noBas h, ev_b _ rfl, if_pos rfl]
  by_cases a : v1 < 0
  · rw [if_pos a, if_pos a]; rfl
  · rw [if_neg a, if_neg a]
    by_cases b : 0 ≤ v2
    · rw [if_pos b, if_pos b]; rfl
    · rw [if_neg b, if_neg b]; rfl
theorem fo_m (v1 v2 : Int32) (k_status : Int32) (k_thrown : Int32) (k_has : Int32) (k_width : Int32) (k_height : Int32) (k_barges : Int32) (k_undoMany : Int32) (k_redoMany : Int32) (k_whyStep : Int32) (k_whyWhat : Int32) (k_whyWho : Int32) (k_hasPlan : Int32) (k_planMany : Int32) (k_wall : Nat → Int32) (k_kind : Nat → Int32) (k_at : Nat → Int32) (k_size : Nat → Int32) (k_way : Nat → Int32) (k_undoBarge : Nat → Int32) (k_undoFrom : Nat → Int32) (k_undoTo : Nat → Int32) (k_planBarge : Nat → Int32) (k_planWay : Nat → Int32) (k_planSteps : Nat → Int32) (k_who : Nat → Int32) (k_here : Nat → Int32) (g1 : k_has = 1) (g2 : k_hasPlan = 0) : f_BargeBasinModel_follow v1 v2 k_status k_thrown k_has k_width k_height k_barges k_undoMany k_redoMany k_whyStep k_whyWhat k_whyWho k_hasPlan k_planMany k_wall k_kind k_at k_size k_way k_undoBarge k_undoFrom k_undoTo k_planBarge k_planWay k_planSteps k_who k_here = some (-1, (if v1 < 0 then 2 else if 0 ≤ v2 then 11 else 2), 0, k_undoMany, k_redoMany, k_whyStep, k_whyWhat, k_whyWho, k_at, k_undoBarge, k_undoFrom, k_undoTo, k_who, k_here) := by
  unfold f_BargeBasinModel_follow
  rw [if_neg (show ¬ k_has = 0 by rw [g1]; decide)]
  by_cases a : v1 < 0
  · rw [if_pos a, if_pos a]; rfl
  · rw [if_neg a, if_neg a]
    by_cases b : 0 ≤ v2
    · rw [if_pos b, if_pos b, if_pos g2]; rfl
    · rw [if_neg b, if_neg b]; rfl
theorem pk_follow_plan00 {o : qO} {ln : qL} {c : qC} {tr : qC} {g : qG} {sh : qQ} {sw : qF} {mi : q_mi} {mw : q_mw} {mp : q_mp} {ml : q_ml} {mb : q_mb} {mu : q_mu} {ms : q_ms} {mk : q_mk} {mo : q_mo} {mt : q_mt} (hB : lwB o ln c g sw mi mw ml mb mu mo) (hp0 : mp.1 = 0) (v1 : Int32) (v2 : Int32) : ∃ (r0 : Int32) (k_status₉ : Int32) (k_status₉₉ : Int32) (k_thrown₉₉ : Int32) (k_undoMany₉₉ : Int32) (k_redoMany₉₉ : Int32) (k_whyStep₉₉ : Int32) (k_whyWhat₉₉ : Int32) (k_whyWho₉₉ : Int32) (k_at₉₉ : Nat → Int32) (k_undoBarge₉₉ : Nat → Int32) (k_undoFrom₉₉ : Nat → Int32) (k_undoTo₉₉ : Nat → Int32) (k_who₉₉ : Nat → Int32) (k_here₉₉ : Nat → Int32), f_BargeBasin_follow_plan00 v1 v2 o.2.1 c.1 = some (r0, k_status₉) ∧ f_BargeBasinModel_follow v1 v2 mi.1 mi.2.1 mi.2.2.1 mi.2.2.2.1 mi.2.2.2.2.1 mi.2.2.2.2.2.1 mi.2.2.2.2.2.2.1 mi.2.2.2.2.2.2.2 mw.1 mw.2.1 mw.2.2 mp.1 mp.2.1 ml.2.2.2 mb.1 mb.2.1 mb.2.2.1 mb.2.2.2.1 mu.1 mu.2.1 mu.2.2.1 mp.2.2.1 mp.2.2.2.1 mp.2.2.2.2 mt.2.2.2.1 mt.2.2.2.2.1 = some (r0, k_status₉₉, k_thrown₉₉, k_undoMany₉₉, k_redoMany₉₉, k_whyStep₉₉, k_whyWhat₉₉, k_whyWho₉₉, k_at₉₉, k_undoBarge₉₉, k_undoFrom₉₉, k_undoTo₉₉, k_who₉₉, k_here₉₉) ∧ lwB (o.1, k_status₉, o.2.2.1, o.2.2.2.1, o.2.2.2.2) ln c g sw (k_status₉₉, k_thrown₉₉, mi.2.2.1, mi.2.2.2.1, mi.2.2.2.2.1, mi.2.2.2.2.2.1, k_undoMany₉₉, k_redoMany₉₉) (k_whyStep₉₉, k_whyWhat₉₉, k_whyWho₉₉) ml (mb.1, k_at₉₉, mb.2.2.1, mb.2.2.2.1, mb.2.2.2.2) (k_undoBarge₉₉, k_undoFrom₉₉, k_undoTo₉₉, mu.2.2.2.1, mu.2.2.2.2.1, mu.2.2.2.2.2) mo := by
  obtain ⟨iS, iW, iB, iO⟩ := hB
  rcases iB with ⟨h0, h1, h9⟩ | ⟨X, hX, hc, hr, hg, hn⟩
  · obtain ⟨cw0, cr⟩ := c
    obtain ⟨m0, m1, mh, mr⟩ := mi
    replace h0 : cw0 = 0 := h0
    replace h1 : mh = 0 := h1
    subst h0
    subst h1
    exact ⟨_, _, _, _, _, _, _, _, _, _, _, _, _, _, _, (nb_BargeBasin_follow_plan00 _ _ _), (nb_BargeBasinModel_follow _ _ _ _ _ _ _ _ _ _ _ _ _ _ _ _ _ _ _ _ _ _ _ _ _ _ _), rfl, iW, Or.inl ⟨rfl, rfl, h9⟩, iO⟩
  · have e1 := fo_x hX.1 v1 v2 o.2.1
    rw [← hc.1] at e1
    exact ⟨_, _, _, _, _, _, _, _, _, _, _, _, _, _, _, e1, fo_m v1 v2 mi.1 mi.2.1 mi.2.2.1 mi.2.2.2.1 mi.2.2.2.2.1 mi.2.2.2.2.2.1 mi.2.2.2.2.2.2.1 mi.2.2.2.2.2.2.2 mw.1 mw.2.1 mw.2.2 mp.1 mp.2.1 ml.2.2.2 mb.1 mb.2.1 mb.2.2.1 mb.2.2.2.1 mu.1 mu.2.1 mu.2.2.1 mp.2.2.1 mp.2.2.2.1 mp.2.2.2.2 mt.2.2.2.1 mt.2.2.2.2.1 hr.1 hp0, rfl, iW, Or.inr ⟨X, hX, hc, hr, hg, hn⟩, iO⟩
