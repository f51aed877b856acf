theorem nb_BargeBasin_make (v1 v2 st chh cn : Int32) (cwl ct : Int64) (ck cp cl cg ca cwd chg : Nat → Int32) (cs : Nat → Int64) (ld lu : Int32) : f_BargeBasin_make v1 v2 st 0 chh cn cwl ct ck cp cl cg ca cwd chg cs ld lu = some (-1, 1, cn, ct, ck, cp, cl, cg, ca, cwd, chg, cs, ld, lu) := rfl
theorem nb_BargeBasinModel_make (v1 v2 st2 th kw kh kn um rm sd : Int32) (kwl kk kat ks ky kg kwho khe : Nat → Int32) : f_BargeBasinModel_make v1 v2 st2 th 0 kw kh kn um rm sd kwl kk kat ks ky kg kwho khe = some (-1, 1, (0 : Int32), kn, um, rm, sd, kk, kat, ks, ky, kg, kwho, khe) := rfl
theorem pk_room {o : qO} {ln : qL} {c : qC} {tr : qC} {g : qG} {sh : qQ} {sw : qF} {mi : q_mi} {mw : q_mw} {mp : q_mp} {ml : q_ml} {mb : q_mb} {mu : q_mu} {ms : q_ms} {mk : q_mk} {mo : q_mo} {mt : q_mt} (hB : lwB o ln c g sw mi mw ml mb mu mo) (v1 : Int32) (v2 : Int32) : ∃ (r0 : Int32) (k_status' : Int32) (k_status'' : Int32) (k_thrown'' : Int32) (k_who'' : Nat → Int32) (k_here'' : Nat → Int32), f_BargeBasin_room v1 v2 o.2.1 c.1 c.2.1 c.2.2.1 c.2.2.2.1 c.2.2.2.2.1 c.2.2.2.2.2.1 c.2.2.2.2.2.2.1 c.2.2.2.2.2.2.2.2.2.1 c.2.2.2.2.2.2.2.2.2.2.1 c.2.2.2.2.2.2.2.2.2.2.2.1 c.2.2.2.2.2.2.2.2.2.2.2.2 = some (r0, k_status') ∧ f_BargeBasinModel_room v1 v2 mi.1 mi.2.1 mi.2.2.1 mi.2.2.2.1 mi.2.2.2.2.1 mi.2.2.2.2.2.1 ml.2.2.2 mb.1 mb.2.1 mb.2.2.1 mb.2.2.2.1 mt.2.2.2.1 mt.2.2.2.2.1 = some (r0, k_status'', k_thrown'', k_who'', k_here'') ∧ lwB (o.1, k_status', o.2.2.1, o.2.2.2.1, o.2.2.2.2) ln c g sw (k_status'', k_thrown'', mi.2.2.1, mi.2.2.2.1, mi.2.2.2.2.1, mi.2.2.2.2.2.1, mi.2.2.2.2.2.2.1, mi.2.2.2.2.2.2.2) mw ml mb mu mo := by
  obtain ⟨iS, iW, iB, iO⟩ := hB
  rcases iB with ⟨h0, h1, h9⟩ | ⟨X, hX, hc, hr, hg, hn⟩
  · obtain ⟨cw0, cr⟩ := c
    obtain ⟨m0, m1, mh, mr⟩ := mi
    replace h0 : cw0 = 0 := h0
    replace h1 : mh = 0 := h1
    subst h0
    subst h1
    exact ⟨_, _, _, _, _, _, (nb_BargeBasin_room _ _ _ _ _ _ _ _ _ _ _ _ _), (nb_BargeBasinModel_room _ _ _ _ _ _ _ _ _ _ _ _ _ _), rfl, iW, Or.inl ⟨rfl, rfl, h9⟩, iO⟩
  · obtain ⟨ans, st', kwho', khe', e1, e2⟩ := eq_room hX.1 hX.2.1 hc hr v1 v2 o.2.1 mi.1 mi.2.1 mt.2.2.2.1 mt.2.2.2.2.1
    exact ⟨_, _, _, _, _, _, e1, e2, rfl, iW, Or.inr ⟨X, hX, hc, hr, hg, hn⟩, iO⟩
theorem pk_field {o : qO} {ln : qL} {c : qC} {tr : qC} {g : qG} {sh : qQ} {sw : qF} {mi : q_mi} {mw : q_mw} {mp : q_mp} {ml : q_ml} {mb : q_mb} {mu : q_mu} {ms : q_ms} {mk : q_mk} {mo : q_mo} {mt : q_mt} (hB : lwB o ln c g sw mi mw ml mb mu mo) (v1 : Int32) (v2 : Int32) : ∃ (r0 : Int32) (k_status' : Int32) (k_status'' : Int32) (k_thrown'' : Int32) (k_who'' : Nat → Int32) (k_here'' : Nat → Int32), f_BargeBasin_field v1 v2 o.2.1 c.1 c.2.1 c.2.2.1 c.2.2.2.1 c.2.2.2.2.2.2.1 c.2.2.2.2.2.2.2.2.2.2.2.2 = some (r0, k_status') ∧ f_BargeBasinModel_field v1 v2 mi.1 mi.2.1 mi.2.2.1 mi.2.2.2.1 mi.2.2.2.2.1 mi.2.2.2.2.2.1 ml.2.2.2 mb.1 mb.2.1 mb.2.2.1 mb.2.2.2.1 mt.2.2.2.1 mt.2.2.2.2.1 = some (r0, k_status'', k_thrown'', k_who'', k_here'') ∧ lwB (o.1, k_status', o.2.2.1, o.2.2.2.1, o.2.2.2.2) ln c g sw (k_status'', k_thrown'', mi.2.2.1, mi.2.2.2.1, mi.2.2.2.2.1, mi.2.2.2.2.2.1, mi.2.2.2.2.2.2.1, mi.2.2.2.2.2.2.2) mw ml mb mu mo := by
  obtain ⟨iS, iW, iB, iO⟩ := hB
  rcases iB with ⟨h0, h1, h9⟩ | ⟨X, hX, hc, hr, hg, hn⟩
  · obtain ⟨cw0, cr⟩ := c
    obtain ⟨m0, m1, mh, mr⟩ := mi
    replace h0 : cw0 = 0 := h0
    replace h1 : mh = 0 := h1
    subst h0
    subst h1
    exact ⟨_, _, _, _, _, _, (nb_BargeBasin_field _ _ _ _ _ _ _ _), (nb_BargeBasinModel_field _ _ _ _ _ _ _ _ _ _ _ _ _ _), rfl, iW, Or.inl ⟨rfl, rfl, h9⟩, iO⟩
  · obtain ⟨ans, st', kwho', khe', e1, e2⟩ := eq_field hX.1 hX.2.1 hc hr v1 v2 o.2.1 mi.1 mi.2.1 mt.2.2.2.1 mt.2.2.2.2.1
    exact ⟨_, _, _, _, _, _, e1, e2, rfl, iW, Or.inr ⟨X, hX, hc, hr, hg, hn⟩, iO⟩
theorem pk_lies {o : qO} {ln : qL} {c : qC} {tr : qC} {g : qG} {sh : qQ} {sw : qF} {mi : q_mi} {mw : q_mw} {mp : q_mp} {ml : q_ml} {mb : q_mb} {mu : q_mu} {ms : q_ms} {mk : q_mk} {mo : q_mo} {mt : q_mt} (hB : lwB o ln c g sw mi mw ml mb mu mo) (v1 : Int32) (v2 : Int32) : ∃ (r0 : Int32) (k_status' : Int32) (k_status'' : Int32) (k_thrown'' : Int32), f_BargeBasin_lies v1 v2 o.2.1 c.1 c.2.2.1 c.2.2.2.2.2.1 c.2.2.2.2.2.2.1 c.2.2.2.2.2.2.2.1 c.2.2.2.2.2.2.2.2.1 c.2.2.2.2.2.2.2.2.2.1 = some (r0, k_status') ∧ f_BargeBasinModel_lies v1 v2 mi.1 mi.2.1 mi.2.2.1 mi.2.2.2.2.2.1 mb.1 mb.2.1 mb.2.2.1 mb.2.2.2.1 mb.2.2.2.2 = some (r0, k_status'', k_thrown'') ∧ lwB (o.1, k_status', o.2.2.1, o.2.2.2.1, o.2.2.2.2) ln c g sw (k_status'', k_thrown'', mi.2.2.1, mi.2.2.2.1, mi.2.2.2.2.1, mi.2.2.2.2.2.1, mi.2.2.2.2.2.2.1, mi.2.2.2.2.2.2.2) mw ml mb mu mo := by
  obtain ⟨iS, iW, iB, iO⟩ := hB
  rcases iB with ⟨h0, h1, h9⟩ | ⟨X, hX, hc, hr, hg, hn⟩
  · obtain ⟨cw0, cr⟩ := c
    obtain ⟨m0, m1, mh, mr⟩ := mi
    replace h0 : cw0 = 0 := h0
    replace h1 : mh = 0 := h1
    subst h0
    subst h1
    exact ⟨_, _, _, _, (nb_BargeBasin_lies _ _ _ _ _ _ _ _ _), (nb_BargeBasinModel_lies _ _ _ _ _ _ _ _ _ _), rfl, iW, Or.inl ⟨rfl, rfl, h9⟩, iO⟩
  · obtain ⟨ans, st', e1, e2⟩ := eq_lies hX.1 hX.2.1 hc hr v1 v2 o.2.1 mi.1 mi.2.1
    exact ⟨_, _, _, _, e1, e2, rfl, iW, Or.inr ⟨X, hX, hc, hr, hg, hn⟩, iO⟩
theorem pk_count {o : qO} {ln : qL} {c : qC} {tr : qC} {g : qG} {sh : qQ} {sw : qF} {mi : q_mi} {mw : q_mw} {mp : q_mp} {ml : q_ml} {mb : q_mb} {mu : q_mu} {ms : q_ms} {mk : q_mk} {mo : q_mo} {mt : q_mt} (hB : lwB o ln c g sw mi mw ml mb mu mo) (v1 : Int32) : ∃ (r0 : Int32) (k_status' : Int32) (k_status'' : Int32) (k_thrown'' : Int32) (k_who'' : Nat → Int32) (k_here'' : Nat → Int32), f_BargeBasin_count v1 o.2.1 c.1 c.2.1 c.2.2.1 c.2.2.2.1 c.2.2.2.2.1 c.2.2.2.2.2.1 c.2.2.2.2.2.2.1 c.2.2.2.2.2.2.2.2.1 g.2.1 g.2.2.1 = some (r0, k_status') ∧ f_BargeBasinModel_count v1 mi.1 mi.2.1 mi.2.2.1 mi.2.2.2.1 mi.2.2.2.2.1 mi.2.2.2.2.2.1 mi.2.2.2.2.2.2.1 mi.2.2.2.2.2.2.2 ml.2.2.2 mb.1 mb.2.1 mb.2.2.1 mb.2.2.2.1 mb.2.2.2.2 mt.2.2.2.1 mt.2.2.2.2.1 = some (r0, k_status'', k_thrown'', k_who'', k_here'') ∧ lwB (o.1, k_status', o.2.2.1, o.2.2.2.1, o.2.2.2.2) ln c g sw (k_status'', k_thrown'', mi.2.2.1, mi.2.2.2.1, mi.2.2.2.2.1, mi.2.2.2.2.2.1, mi.2.2.2.2.2.2.1, mi.2.2.2.2.2.2.2) mw ml mb mu mo := by
  obtain ⟨iS, iW, iB, iO⟩ := hB
  rcases iB with ⟨h0, h1, h9⟩ | ⟨X, hX, hc, hr, hg, hn⟩
  · obtain ⟨cw0, cr⟩ := c
    obtain ⟨m0, m1, mh, mr⟩ := mi
    replace h0 : cw0 = 0 := h0
    replace h1 : mh = 0 := h1
    subst h0
    subst h1
    exact ⟨_, _, _, _, _, _, (nb_BargeBasin_count _ _ _ _ _ _ _ _ _ _ _), (nb_BargeBasinModel_count _ _ _ _ _ _ _ _ _ _ _ _ _ _ _ _), rfl, iW, Or.inl ⟨rfl, rfl, h9⟩, iO⟩
  · obtain ⟨ans, st', kwho', khe', e1, e2⟩ := eq_count hX.1 hX.2.1 hc hr hg hX.2.2 v1 o.2.1 mi.1 mi.2.1 mt.2.2.2.1 mt.2.2.2.2.1
    exact ⟨_, _, _, _, _, _, e1, e2, rfl, iW, Or.inr ⟨X, hX, hc, hr, hg, hn⟩, iO⟩
theorem pk_low {o : qO} {ln : qL} {c : qC} {tr : qC} {g : qG} {sh : qQ} {sw : qF} {mi : q_mi} {mw : q_mw} {mp : q_mp} {ml : q_ml} {mb : q_mb} {mu : q_mu} {ms : q_ms} {mk : q_mk} {mo : q_mo} {mt : q_mt} (hB : lwB o ln c g sw mi mw ml mb mu mo)  : ∃ (r0 : Int32) (k_status' : Int32) (k_status'' : Int32) (k_thrown'' : Int32) (k_who'' : Nat → Int32) (k_here'' : Nat → Int32) (k_counts'' : Nat → Int32), f_BargeBasin_low o.2.1 c.1 c.2.2.1 c.2.2.2.2.2.1 c.2.2.2.2.2.2.1 c.2.2.2.2.2.2.2.2.1 c.2.2.2.2.2.2.2.2.2.1 c.2.2.2.2.2.2.2.2.2.2.2.2 = some (r0, k_status') ∧ f_BargeBasinModel_low mi.1 mi.2.1 mi.2.2.1 mi.2.2.2.2.2.1 mb.1 mb.2.1 mb.2.2.1 mb.2.2.2.1 mb.2.2.2.2 mt.2.2.2.1 mt.2.2.2.2.1 mt.2.2.2.2.2.1 = some (r0, k_status'', k_thrown'', k_who'', k_here'', k_counts'') ∧ lwB (o.1, k_status', o.2.2.1, o.2.2.2.1, o.2.2.2.2) ln c g sw (k_status'', k_thrown'', mi.2.2.1, mi.2.2.2.1, mi.2.2.2.2.1, mi.2.2.2.2.2.1, mi.2.2.2.2.2.2.1, mi.2.2.2.2.2.2.2) mw ml mb mu mo := by
  obtain ⟨iS, iW, iB, iO⟩ := hB
  rcases iB with ⟨h0, h1, h9⟩ | ⟨X, hX, hc, hr, hg, hn⟩
  · obtain ⟨cw0, cr⟩ := c
    obtain ⟨m0, m1, mh, mr⟩ := mi
    replace h0 : cw0 = 0 := h0
    replace h1 : mh = 0 := h1
    subst h0
    subst h1
    exact ⟨_, _, _, _, _, _, _, (nb_BargeBasin_low _ _ _ _ _ _ _), (nb_BargeBasinModel_low _ _ _ _ _ _ _ _ _ _ _), rfl, iW, Or.inl ⟨rfl, rfl, h9⟩, iO⟩
  · obtain ⟨ans, st', kwho', khe', kc', e1, e2⟩ := eq_low hX.1 hX.2.1 hc hr o.2.1 mi.1 mi.2.1 mt.2.2.2.1 mt.2.2.2.2.1 mt.2.2.2.2.2.1
    exact ⟨_, _, _, _, _, _, _, e1, e2, rfl, iW, Or.inr ⟨X, hX, hc, hr, hg, hn⟩, iO⟩
theorem pk_slide {o : qO} {ln : qL} {c : qC} {tr : qC} {g : qG} {sh : qQ} {sw : qF} {mi : q_mi} {mw : q_mw} {mp : q_mp} {ml : q_ml} {mb : q_mb} {mu : q_mu} {ms : q_ms} {mk : q_mk} {mo : q_mo} {mt : q_mt} (hB : lwB o ln c g sw mi mw ml mb mu mo) (v1 : Int32) (v2 : Int32) (v3 : Int32) : ∃ (r0 : Int32) (k_status' : Int32) (k_whyStep' : Int32) (k_whyReason' : Int32) (k_whyBarge' : Int32) (k_chart_taken' : Int64) (k_chart_place' : Nat → Int32) (k_log_first' : Int32) (k_log_done' : Int32) (k_log_undone' : Int32) (k_log_moves' : Nat → Int32) (k_status'' : Int32) (k_thrown'' : Int32) (k_undoMany'' : Int32) (k_redoMany'' : Int32) (k_whyStep'' : Int32) (k_whyWhat'' : Int32) (k_whyWho'' : Int32) (k_at'' : Nat → Int32) (k_undoBarge'' : Nat → Int32) (k_undoFrom'' : Nat → Int32) (k_undoTo'' : Nat → Int32) (k_who'' : Nat → Int32) (k_here'' : Nat → Int32), f_BargeBasin_slide v1 v2 v3 o.2.1 o.2.2.1 o.2.2.2.1 o.2.2.2.2 c.1 c.2.1 c.2.2.1 c.2.2.2.1 c.2.2.2.2.1 c.2.2.2.2.2.1 c.2.2.2.2.2.2.1 c.2.2.2.2.2.2.2.2.2.1 c.2.2.2.2.2.2.2.2.2.2.1 c.2.2.2.2.2.2.2.2.2.2.2.1 c.2.2.2.2.2.2.2.2.2.2.2.2 g.1 g.2.1 g.2.2.1 g.2.2.2 = some (r0, k_status', k_whyStep', k_whyReason', k_whyBarge', k_chart_taken', k_chart_place', k_log_first', k_log_done', k_log_undone', k_log_moves') ∧ f_BargeBasinModel_slide v1 v2 v3 mi.1 mi.2.1 mi.2.2.1 mi.2.2.2.1 mi.2.2.2.2.1 mi.2.2.2.2.2.1 mi.2.2.2.2.2.2.1 mi.2.2.2.2.2.2.2 mw.1 mw.2.1 mw.2.2 ml.2.2.2 mb.1 mb.2.1 mb.2.2.1 mb.2.2.2.1 mu.1 mu.2.1 mu.2.2.1 mt.2.2.2.1 mt.2.2.2.2.1 = some (r0, k_status'', k_thrown'', k_undoMany'', k_redoMany'', k_whyStep'', k_whyWhat'', k_whyWho'', k_at'', k_undoBarge'', k_undoFrom'', k_undoTo'', k_who'', k_here'') ∧ lwB (o.1, k_status', k_whyStep', k_whyReason', k_whyBarge') ln (c.1, c.2.1, c.2.2.1, c.2.2.2.1, k_chart_taken', c.2.2.2.2.2.1, k_chart_place', c.2.2.2.2.2.2.2.1, c.2.2.2.2.2.2.2.2.1, c.2.2.2.2.2.2.2.2.2.1, c.2.2.2.2.2.2.2.2.2.2.1, c.2.2.2.2.2.2.2.2.2.2.2.1, c.2.2.2.2.2.2.2.2.2.2.2.2) (k_log_first', k_log_done', k_log_undone', k_log_moves') sw (k_status'', k_thrown'', mi.2.2.1, mi.2.2.2.1, mi.2.2.2.2.1, mi.2.2.2.2.2.1, k_undoMany'', k_redoMany'') (k_whyStep'', k_whyWhat'', k_whyWho'') ml (mb.1, k_at'', mb.2.2.1, mb.2.2.2.1, mb.2.2.2.2) (k_undoBarge'', k_undoFrom'', k_undoTo'', mu.2.2.2.1, mu.2.2.2.2.1, mu.2.2.2.2.2) mo := by
  obtain ⟨iS, iW, iB, iO⟩ := hB
  rcases iB with ⟨h0, h1, h9⟩ | ⟨X, hX, hc, hr, hg, hn⟩
  · obtain ⟨cw0, cr⟩ := c
    obtain ⟨m0, m1, mh, mr⟩ := mi
    replace h0 : cw0 = 0 := h0
    replace h1 : mh = 0 := h1
    subst h0
    subst h1
    exact ⟨_, _, _, _, _, _, _, _, _, _, _, _, _, _, _, _, _, _, _, _, _, _, _, _, (nb_BargeBasin_slide _ _ _ _ _ _ _ _ _ _ _ _ _ _ _ _ _ _ _ _ _), (nb_BargeBasinModel_slide _ _ _ _ _ _ _ _ _ _ _ _ _ _ _ _ _ _ _ _ _ _ _), rfl, iW, Or.inl ⟨rfl, rfl, h9⟩, iO⟩
  · obtain ⟨ans, st', w1', w2', w3', ct', cp', lf', ld', lu', lm', um', rm', kat', ub', uf', ut', kwho', khe', Q, e1, e2, q1, q2, q3, q4, q5⟩ := eq_slide hX.1 hX.2.1 hc hr hg v1 v2 v3 o.2.1 mi.1 mi.2.1 o.2.2.1 o.2.2.2.1 o.2.2.2.2 mt.2.2.2.1 mt.2.2.2.2.1
    subst iW
    exact ⟨_, _, _, _, _, _, _, _, _, _, _, _, _, _, _, _, _, _, _, _, _, _, _, _, e1, e2, rfl, rfl, Or.inr ⟨(X.1, Q), ⟨hX.1, q1, hX.2.2⟩, ch_mv hc q2 q3, rf_mv hr q4, q5, hn⟩, iO⟩
theorem pk_undo {o : qO} {ln : qL} {c : qC} {tr : qC} {g : qG} {sh : qQ} {sw : qF} {mi : q_mi} {mw : q_mw} {mp : q_mp} {ml : q_ml} {mb : q_mb} {mu : q_mu} {ms : q_ms} {mk : q_mk} {mo : q_mo} {mt : q_mt} (hB : lwB o ln c g sw mi mw ml mb mu mo)  : ∃ (r0 : Int32) (k_status' : Int32) (k_chart_taken' : Int64) (k_chart_place' : Nat → Int32) (k_log_done' : Int32) (k_log_undone' : Int32) (k_status'' : Int32) (k_thrown'' : Int32) (k_undoMany'' : Int32) (k_redoMany'' : Int32) (k_at'' : Nat → Int32) (k_redoBarge'' : Nat → Int32) (k_redoFrom'' : Nat → Int32) (k_redoTo'' : Nat → Int32), f_BargeBasin_undo o.2.1 c.1 c.2.2.2.2.1 c.2.2.2.2.2.2.1 c.2.2.2.2.2.2.2.2.2.2.2.2 g.1 g.2.1 g.2.2.1 g.2.2.2 = some (r0, k_status', k_chart_taken', k_chart_place', k_log_done', k_log_undone') ∧ f_BargeBasinModel_undo mi.1 mi.2.1 mi.2.2.1 mi.2.2.2.2.2.2.1 mi.2.2.2.2.2.2.2 mb.2.1 mu.1 mu.2.1 mu.2.2.1 mu.2.2.2.1 mu.2.2.2.2.1 mu.2.2.2.2.2 = some (r0, k_status'', k_thrown'', k_undoMany'', k_redoMany'', k_at'', k_redoBarge'', k_redoFrom'', k_redoTo'') ∧ lwB (o.1, k_status', o.2.2.1, o.2.2.2.1, o.2.2.2.2) ln (c.1, c.2.1, c.2.2.1, c.2.2.2.1, k_chart_taken', c.2.2.2.2.2.1, k_chart_place', c.2.2.2.2.2.2.2.1, c.2.2.2.2.2.2.2.2.1, c.2.2.2.2.2.2.2.2.2.1, c.2.2.2.2.2.2.2.2.2.2.1, c.2.2.2.2.2.2.2.2.2.2.2.1, c.2.2.2.2.2.2.2.2.2.2.2.2) (g.1, k_log_done', k_log_undone', g.2.2.2) sw (k_status'', k_thrown'', mi.2.2.1, mi.2.2.2.1, mi.2.2.2.2.1, mi.2.2.2.2.2.1, k_undoMany'', k_redoMany'') mw ml (mb.1, k_at'', mb.2.2.1, mb.2.2.2.1, mb.2.2.2.2) (mu.1, mu.2.1, mu.2.2.1, k_redoBarge'', k_redoFrom'', k_redoTo'') mo := by
  obtain ⟨iS, iW, iB, iO⟩ := hB
  rcases iB with ⟨h0, h1, h9⟩ | ⟨X, hX, hc, hr, hg, hn⟩
  · obtain ⟨cw0, cr⟩ := c
    obtain ⟨m0, m1, mh, mr⟩ := mi
    replace h0 : cw0 = 0 := h0
    replace h1 : mh = 0 := h1
    subst h0
    subst h1
    exact ⟨_, _, _, _, _, _, _, _, _, _, _, _, _, _, (nb_BargeBasin_undo _ _ _ _ _ _ _ _), (nb_BargeBasinModel_undo _ _ _ _ _ _ _ _ _ _ _), rfl, iW, Or.inl ⟨rfl, rfl, h9⟩, iO⟩
  · obtain ⟨ans, st', ct', cp', ld', lu', um', rm', kat', rb', rf', rt', Q, e1, e2, q1, q2, q3, q4, q5⟩ := eq_undo hX.1 hX.2.1 hc hr hg o.2.1 mi.1 mi.2.1
    exact ⟨_, _, _, _, _, _, _, _, _, _, _, _, _, _, e1, e2, rfl, iW, Or.inr ⟨(X.1, Q), ⟨hX.1, q1, hX.2.2⟩, ch_mv hc q2 q3, rf_mv hr q4, q5, hn⟩, iO⟩
theorem pk_redo {o : qO} {ln : qL} {c : qC} {tr : qC} {g : qG} {sh : qQ} {sw : qF} {mi : q_mi} {mw : q_mw} {mp : q_mp} {ml : q_ml} {mb : q_mb} {mu : q_mu} {ms : q_ms} {mk : q_mk} {mo : q_mo} {mt : q_mt} (hB : lwB o ln c g sw mi mw ml mb mu mo)  : ∃ (r0 : Int32) (k_status' : Int32) (k_chart_taken' : Int64) (k_chart_place' : Nat → Int32) (k_log_done' : Int32) (k_log_undone' : Int32) (k_status'' : Int32) (k_thrown'' : Int32) (k_undoMany'' : Int32) (k_redoMany'' : Int32) (k_at'' : Nat → Int32) (k_undoBarge'' : Nat → Int32) (k_undoFrom'' : Nat → Int32) (k_undoTo'' : Nat → Int32), f_BargeBasin_redo o.2.1 c.1 c.2.2.2.2.1 c.2.2.2.2.2.2.1 c.2.2.2.2.2.2.2.2.2.2.2.2 g.1 g.2.1 g.2.2.1 g.2.2.2 = some (r0, k_status', k_chart_taken', k_chart_place', k_log_done', k_log_undone') ∧ f_BargeBasinModel_redo mi.1 mi.2.1 mi.2.2.1 mi.2.2.2.2.2.2.1 mi.2.2.2.2.2.2.2 mb.2.1 mu.1 mu.2.1 mu.2.2.1 mu.2.2.2.1 mu.2.2.2.2.1 mu.2.2.2.2.2 = some (r0, k_status'', k_thrown'', k_undoMany'', k_redoMany'', k_at'', k_undoBarge'', k_undoFrom'', k_undoTo'') ∧ lwB (o.1, k_status', o.2.2.1, o.2.2.2.1, o.2.2.2.2) ln (c.1, c.2.1, c.2.2.1, c.2.2.2.1, k_chart_taken', c.2.2.2.2.2.1, k_chart_place', c.2.2.2.2.2.2.2.1, c.2.2.2.2.2.2.2.2.1, c.2.2.2.2.2.2.2.2.2.1, c.2.2.2.2.2.2.2.2.2.2.1, c.2.2.2.2.2.2.2.2.2.2.2.1, c.2.2.2.2.2.2.2.2.2.2.2.2) (g.1, k_log_done', k_log_undone', g.2.2.2) sw (k_status'', k_thrown'', mi.2.2.1, mi.2.2.2.1, mi.2.2.2.2.1, mi.2.2.2.2.2.1, k_undoMany'', k_redoMany'') mw ml (mb.1, k_at'', mb.2.2.1, mb.2.2.2.1, mb.2.2.2.2) (k_undoBarge'', k_undoFrom'', k_undoTo'', mu.2.2.2.1, mu.2.2.2.2.1, mu.2.2.2.2.2) mo := by
  obtain ⟨iS, iW, iB, iO⟩ := hB
  rcases iB with ⟨h0, h1, h9⟩ | ⟨X, hX, hc, hr, hg, hn⟩
  · obtain ⟨cw0, cr⟩ := c
    obtain ⟨m0, m1, mh, mr⟩ := mi
    replace h0 : cw0 = 0 := h0
    replace h1 : mh = 0 := h1
    subst h0
    subst h1
    exact ⟨_, _, _, _, _, _, _, _, _, _, _, _, _, _, (nb_BargeBasin_redo _ _ _ _ _ _ _ _), (nb_BargeBasinModel_redo _ _ _ _ _ _ _ _ _ _ _), rfl, iW, Or.inl ⟨rfl, rfl, h9⟩, iO⟩
  · obtain ⟨ans, st', ct', cp', ld', lu', um', rm', kat', ub', uf', ut', Q, e1, e2, q1, q2, q3, q4, q5⟩ := eq_redo hX.1 hX.2.1 hc hr hg o.2.1 mi.1 mi.2.1
    exact ⟨_, _, _, _, _, _, _, _, _, _, _, _, _, _, e1, e2, rfl, iW, Or.inr ⟨(X.1, Q), ⟨hX.1, q1, hX.2.2⟩, ch_mv hc q2 q3, rf_mv hr q4, q5, hn⟩, iO⟩
theorem pk_lift {o : qO} {ln : qL} {c : qC} {tr : qC} {g : qG} {sh : qQ} {sw : qF} {mi : q_mi} {mw : q_mw} {mp : q_mp} {ml : q_ml} {mb : q_mb} {mu : q_mu} {ms : q_ms} {mk : q_mk} {mo : q_mo} {mt : q_mt} (hB : lwB o ln c g sw mi mw ml mb mu mo) (v1 : Int32) : ∃ (r0 : Int32) (k_status' : Int32) (k_chart_barges' : Int32) (k_chart_taken' : Int64) (k_chart_kind' : Nat → Int32) (k_chart_place' : Nat → Int32) (k_chart_length' : Nat → Int32) (k_chart_gate' : Nat → Int32) (k_chart_across' : Nat → Int32) (k_chart_wide' : Nat → Int32) (k_chart_high' : Nat → Int32) (k_chart_shape' : Nat → Int64) (k_log_done' : Int32) (k_log_undone' : Int32) (k_status'' : Int32) (k_thrown'' : Int32) (k_barges'' : Int32) (k_undoMany'' : Int32) (k_redoMany'' : Int32) (k_kind'' : Nat → Int32) (k_at'' : Nat → Int32) (k_size'' : Nat → Int32) (k_way'' : Nat → Int32) (k_gate'' : Nat → Int32), f_BargeBasin_lift v1 o.2.1 c.1 c.2.2.1 c.2.2.2.2.1 c.2.2.2.2.2.1 c.2.2.2.2.2.2.1 c.2.2.2.2.2.2.2.1 c.2.2.2.2.2.2.2.2.1 c.2.2.2.2.2.2.2.2.2.1 c.2.2.2.2.2.2.2.2.2.2.1 c.2.2.2.2.2.2.2.2.2.2.2.1 c.2.2.2.2.2.2.2.2.2.2.2.2 g.2.1 g.2.2.1 = some (r0, k_status', k_chart_barges', k_chart_taken', k_chart_kind', k_chart_place', k_chart_length', k_chart_gate', k_chart_across', k_chart_wide', k_chart_high', k_chart_shape', k_log_done', k_log_undone') ∧ f_BargeBasinModel_lift v1 mi.1 mi.2.1 mi.2.2.1 mi.2.2.2.2.2.1 mi.2.2.2.2.2.2.1 mi.2.2.2.2.2.2.2 mb.1 mb.2.1 mb.2.2.1 mb.2.2.2.1 mb.2.2.2.2 = some (r0, k_status'', k_thrown'', k_barges'', k_undoMany'', k_redoMany'', k_kind'', k_at'', k_size'', k_way'', k_gate'') ∧ lwB (o.1, k_status', o.2.2.1, o.2.2.2.1, o.2.2.2.2) ln (c.1, c.2.1, k_chart_barges', c.2.2.2.1, k_chart_taken', k_chart_kind', k_chart_place', k_chart_length', k_chart_gate', k_chart_across', k_chart_wide', k_chart_high', k_chart_shape') (g.1, k_log_done', k_log_undone', g.2.2.2) sw (k_status'', k_thrown'', mi.2.2.1, mi.2.2.2.1, mi.2.2.2.2.1, k_barges'', k_undoMany'', k_redoMany'') mw ml (k_kind'', k_at'', k_size'', k_way'', k_gate'') mu mo := by
  obtain ⟨iS, iW, iB, iO⟩ := hB
  rcases iB with ⟨h0, h1, h9⟩ | ⟨X, hX, hc, hr, hg, hn⟩
  · obtain ⟨cw0, cr⟩ := c
    obtain ⟨m0, m1, mh, mr⟩ := mi
    replace h0 : cw0 = 0 := h0
    replace h1 : mh = 0 := h1
    subst h0
    subst h1
    exact ⟨_, _, _, _, _, _, _, _, _, _, _, _, _, _, _, _, _, _, _, _, _, _, _, _, (nb_BargeBasin_lift _ _ _ _ _ _ _ _ _ _ _ _ _ _), (nb_BargeBasinModel_lift _ _ _ _ _ _ _ _ _ _ _), rfl, iW, Or.inl ⟨rfl, rfl, h9⟩, iO⟩
  · obtain ⟨ans, st', cn', ct', ck', cp', cl', cg', ca', cwd', chg', cs', ld', lu', kn', um', rm', kk', kat', ks', ky', kg', B', Q, e1, e2, qd, q1, q2, q3, q4, q5⟩ := eq_lift hX.1 hX.2.1 hc hr hg v1 o.2.1 mi.1 mi.2.1
    have hn' : lnR B' ln.1 ln.2.1 ln.2.2.1 ml.1 ml.2.1 ml.2.2.1 := by rcases qd with rfl | ⟨b, _, rfl⟩ <;> exact hn
    exact ⟨_, _, _, _, _, _, _, _, _, _, _, _, _, _, _, _, _, _, _, _, _, _, _, _, e1, e2, rfl, iW, Or.inr ⟨(B', Q), ⟨q1, q2, hn'.2.2.1⟩, q3, q4, q5, hn'⟩, iO⟩
theorem pk_gate {o : qO} {ln : qL} {c : qC} {tr : qC} {g : qG} {sh : qQ} {sw : qF} {mi : q_mi} {mw : q_mw} {mp : q_mp} {ml : q_ml} {mb : q_mb} {mu : q_mu} {ms : q_ms} {mk : q_mk} {mo : q_mo} {mt : q_mt} (hB : lwB o ln c g sw mi mw ml mb mu mo) (v1 : Int32) (v2 : Int32) (v3 : Int32) : ∃ (r0 : Int32) (k_status' : Int32) (k_chart_gate' : Nat → Int32) (k_log_done' : Int32) (k_log_undone' : Int32) (k_status'' : Int32) (k_thrown'' : Int32) (k_undoMany'' : Int32) (k_redoMany'' : Int32) (k_gate'' : Nat → Int32), f_BargeBasin_gate v1 v2 v3 o.2.1 c.1 c.2.1 c.2.2.1 c.2.2.2.2.2.1 c.2.2.2.2.2.2.1 c.2.2.2.2.2.2.2.2.1 c.2.2.2.2.2.2.2.2.2.1 c.2.2.2.2.2.2.2.2.2.2.1 c.2.2.2.2.2.2.2.2.2.2.2.1 g.2.1 g.2.2.1 = some (r0, k_status', k_chart_gate', k_log_done', k_log_undone') ∧ f_BargeBasinModel_gate v1 v2 v3 mi.1 mi.2.1 mi.2.2.1 mi.2.2.2.1 mi.2.2.2.2.1 mi.2.2.2.2.2.1 mi.2.2.2.2.2.2.1 mi.2.2.2.2.2.2.2 mb.1 mb.2.1 mb.2.2.1 mb.2.2.2.1 mb.2.2.2.2 = some (r0, k_status'', k_thrown'', k_undoMany'', k_redoMany'', k_gate'') ∧ lwB (o.1, k_status', o.2.2.1, o.2.2.2.1, o.2.2.2.2) ln (c.1, c.2.1, c.2.2.1, c.2.2.2.1, c.2.2.2.2.1, c.2.2.2.2.2.1, c.2.2.2.2.2.2.1, c.2.2.2.2.2.2.2.1, k_chart_gate', c.2.2.2.2.2.2.2.2.2.1, c.2.2.2.2.2.2.2.2.2.2.1, c.2.2.2.2.2.2.2.2.2.2.2.1, c.2.2.2.2.2.2.2.2.2.2.2.2) (g.1, k_log_done', k_log_undone', g.2.2.2) sw (k_status'', k_thrown'', mi.2.2.1, mi.2.2.2.1, mi.2.2.2.2.1, mi.2.2.2.2.2.1, k_undoMany'', k_redoMany'') mw ml (mb.1, mb.2.1, mb.2.2.1, mb.2.2.2.1, k_gate'') mu mo := by
  obtain ⟨iS, iW, iB, iO⟩ := hB
  rcases iB with ⟨h0, h1, h9⟩ | ⟨X, hX, hc, hr, hg, hn⟩
  · obtain ⟨cw0, cr⟩ := c
    obtain ⟨m0, m1, mh, mr⟩ := mi
    replace h0 : cw0 = 0 := h0
    replace h1 : mh = 0 := h1
    subst h0
    subst h1
    exact ⟨_, _, _, _, _, _, _, _, _, _, (nb_BargeBasin_gate _ _ _ _ _ _ _ _ _ _ _ _ _ _), (nb_BargeBasinModel_gate _ _ _ _ _ _ _ _ _ _ _ _ _ _ _), rfl, iW, Or.inl ⟨rfl, rfl, h9⟩, iO⟩
  · obtain ⟨ans, st', cg', ld', lu', um', rm', kg', B', e1, e2, qd, q1, q2, q3, q4, q5⟩ := eq_gate hX.1 hX.2.1 hc hr hg v1 v2 v3 o.2.1 mi.1 mi.2.1
    have hn' : lnR B' ln.1 ln.2.1 ln.2.2.1 ml.1 ml.2.1 ml.2.2.1 := by rcases qd with rfl | ⟨b, x, y, _, _, _, _, rfl⟩ <;> exact hn
    exact ⟨_, _, _, _, _, _, _, _, _, _, e1, e2, rfl, iW, Or.inr ⟨(B', X.2), ⟨q1, q2, hn'.2.2.1⟩, q3, q4, q5, hn'⟩, iO⟩
theorem pk_barge {o : qO} {ln : qL} {c : qC} {tr : qC} {g : qG} {sh : qQ} {sw : qF} {mi : q_mi} {mw : q_mw} {mp : q_mp} {ml : q_ml} {mb : q_mb} {mu : q_mu} {ms : q_ms} {mk : q_mk} {mo : q_mo} {mt : q_mt} (hB : lwB o ln c g sw mi mw ml mb mu mo) (v1 : Int32) (v2 : Int32) (v3 : Int32) (v4 : Int32) (v5 : Bool) : ∃ (r0 : Int32) (k_status' : Int32) (k_chart_barges' : Int32) (k_chart_taken' : Int64) (k_chart_kind' : Nat → Int32) (k_chart_place' : Nat → Int32) (k_chart_length' : Nat → Int32) (k_chart_gate' : Nat → Int32) (k_chart_across' : Nat → Int32) (k_chart_wide' : Nat → Int32) (k_chart_high' : Nat → Int32) (k_chart_shape' : Nat → Int64) (k_log_done' : Int32) (k_log_undone' : Int32) (k_status'' : Int32) (k_thrown'' : Int32) (k_barges'' : Int32) (k_undoMany'' : Int32) (k_redoMany'' : Int32) (k_kind'' : Nat → Int32) (k_at'' : Nat → Int32) (k_size'' : Nat → Int32) (k_way'' : Nat → Int32) (k_gate'' : Nat → Int32) (k_who'' : Nat → Int32) (k_here'' : Nat → Int32), f_BargeBasin_barge v1 v2 v3 v4 (bI v5) o.2.1 c.1 c.2.1 c.2.2.1 c.2.2.2.1 c.2.2.2.2.1 c.2.2.2.2.2.1 c.2.2.2.2.2.2.1 c.2.2.2.2.2.2.2.1 c.2.2.2.2.2.2.2.2.1 c.2.2.2.2.2.2.2.2.2.1 c.2.2.2.2.2.2.2.2.2.2.1 c.2.2.2.2.2.2.2.2.2.2.2.1 c.2.2.2.2.2.2.2.2.2.2.2.2 g.2.1 g.2.2.1 = some (r0, k_status', k_chart_barges', k_chart_taken', k_chart_kind', k_chart_place', k_chart_length', k_chart_gate', k_chart_across', k_chart_wide', k_chart_high', k_chart_shape', k_log_done', k_log_undone') ∧ f_BargeBasinModel_barge v1 v2 v3 v4 (bI v5) mi.1 mi.2.1 mi.2.2.1 mi.2.2.2.1 mi.2.2.2.2.1 mi.2.2.2.2.2.1 mi.2.2.2.2.2.2.1 mi.2.2.2.2.2.2.2 ml.2.2.2 mb.1 mb.2.1 mb.2.2.1 mb.2.2.2.1 mb.2.2.2.2 mt.2.2.2.1 mt.2.2.2.2.1 = some (r0, k_status'', k_thrown'', k_barges'', k_undoMany'', k_redoMany'', k_kind'', k_at'', k_size'', k_way'', k_gate'', k_who'', k_here'') ∧ lwB (o.1, k_status', o.2.2.1, o.2.2.2.1, o.2.2.2.2) ln (c.1, c.2.1, k_chart_barges', c.2.2.2.1, k_chart_taken', k_chart_kind', k_chart_place', k_chart_length', k_chart_gate', k_chart_across', k_chart_wide', k_chart_high', k_chart_shape') (g.1, k_log_done', k_log_undone', g.2.2.2) sw (k_status'', k_thrown'', mi.2.2.1, mi.2.2.2.1, mi.2.2.2.2.1, k_barges'', k_undoMany'', k_redoMany'') mw ml (k_kind'', k_at'', k_size'', k_way'', k_gate'') mu mo := by
  obtain ⟨iS, iW, iB, iO⟩ := hB
  rcases iB with ⟨h0, h1, h9⟩ | ⟨X, hX, hc, hr, hg, hn⟩
  · obtain ⟨cw0, cr⟩ := c
    obtain ⟨m0, m1, mh, mr⟩ := mi
    replace h0 : cw0 = 0 := h0
    replace h1 : mh = 0 := h1
    subst h0
    subst h1
    exact ⟨_, _, _, _, _, _, _, _, _, _, _, _, _, _, _, _, _, _, _, _, _, _, _, _, _, _, (nb_BargeBasin_barge _ _ _ _ _ _ _ _ _ _ _ _ _ _ _ _ _ _ _ _), (nb_BargeBasinModel_barge _ _ _ _ _ _ _ _ _ _ _ _ _ _ _ _ _ _ _ _), rfl, iW, Or.inl ⟨rfl, rfl, h9⟩, iO⟩
  · obtain ⟨ans, st', cn', ct', ck', cp', cl', cg', ca', cwd', chg', cs', ld', lu', kn', um', rm', kk', kat', ks', ky', kg', kwho', khe', B', Q, e1, e2, qd, q1, q2, q3, q4, q5⟩ := eq_barge hX.1 hX.2.1 hc hr hg v1 v2 v3 v4 v5 o.2.1 mi.1 mi.2.1 mt.2.2.2.1 mt.2.2.2.2.1
    have hn' : lnR B' ln.1 ln.2.1 ln.2.2.1 ml.1 ml.2.1 ml.2.2.1 := by rcases qd with rfl | ⟨k, s, y, p, rfl, _⟩ <;> exact hn
    exact ⟨_, _, _, _, _, _, _, _, _, _, _, _, _, _, _, _, _, _, _, _, _, _, _, _, _, _, e1, e2, rfl, iW, Or.inr ⟨(B', Q), ⟨q1, q2, hn'.2.2.1⟩, q3, q4, q5, hn'⟩, iO⟩
theorem pk_tear {o : qO} {ln : qL} {c : qC} {tr : qC} {g : qG} {sh : qQ} {sw : qF} {mi : q_mi} {mw : q_mw} {mp : q_mp} {ml : q_ml} {mb : q_mb} {mu : q_mu} {ms : q_ms} {mk : q_mk} {mo : q_mo} {mt : q_mt} (hB : lwB o ln c g sw mi mw ml mb mu mo) (v1 : Int32) : ∃ (r0 : Int32) (k_status' : Int32) (k_lines_sort' : Nat → Int32) (k_chart_walls' : Int64) (k_log_done' : Int32) (k_log_undone' : Int32) (k_status'' : Int32) (k_thrown'' : Int32) (k_undoMany'' : Int32) (k_redoMany'' : Int32) (k_lineMany'' : Nat → Int32) (k_wall'' : Nat → Int32), f_BargeBasin_tear v1 o.2.1 ln.1 ln.2.1 ln.2.2.1 c.1 c.2.1 c.2.2.2.1 g.2.1 g.2.2.1 = some (r0, k_status', k_lines_sort', k_chart_walls', k_log_done', k_log_undone') ∧ f_BargeBasinModel_tear v1 mi.1 mi.2.1 mi.2.2.1 mi.2.2.2.1 mi.2.2.2.2.1 mi.2.2.2.2.2.2.1 mi.2.2.2.2.2.2.2 ml.2.1 ml.2.2.1 ml.2.2.2 = some (r0, k_status'', k_thrown'', k_undoMany'', k_redoMany'', k_lineMany'', k_wall'') ∧ lwB (o.1, k_status', o.2.2.1, o.2.2.2.1, o.2.2.2.2) (k_lines_sort', ln.2.1, ln.2.2.1, ln.2.2.2) (c.1, c.2.1, c.2.2.1, k_chart_walls', c.2.2.2.2.1, c.2.2.2.2.2.1, c.2.2.2.2.2.2.1, c.2.2.2.2.2.2.2.1, c.2.2.2.2.2.2.2.2.1, c.2.2.2.2.2.2.2.2.2.1, c.2.2.2.2.2.2.2.2.2.2.1, c.2.2.2.2.2.2.2.2.2.2.2.1, c.2.2.2.2.2.2.2.2.2.2.2.2) (g.1, k_log_done', k_log_undone', g.2.2.2) sw (k_status'', k_thrown'', mi.2.2.1, mi.2.2.2.1, mi.2.2.2.2.1, mi.2.2.2.2.2.1, k_undoMany'', k_redoMany'') mw (ml.1, k_lineMany'', ml.2.2.1, k_wall'') mb mu mo := by
  obtain ⟨iS, iW, iB, iO⟩ := hB
  rcases iB with ⟨h0, h1, h9⟩ | ⟨X, hX, hc, hr, hg, hn⟩
  · obtain ⟨cw0, cr⟩ := c
    obtain ⟨m0, m1, mh, mr⟩ := mi
    replace h0 : cw0 = 0 := h0
    replace h1 : mh = 0 := h1
    subst h0
    subst h1
    exact ⟨_, _, _, _, _, _, _, _, _, _, _, _, (nb_BargeBasin_tear _ _ _ _ _ _ _ _ _), (nb_BargeBasinModel_tear _ _ _ _ _ _ _ _ _ _), rfl, iW, Or.inl ⟨rfl, rfl, h9⟩, iO⟩
  · obtain ⟨ans, st', csort', cwl', ld', lu', um', rm', lmany', kwl', B', e1, e2, qd, q1, q2, q3, q4, q5, q6⟩ := eq_tear hX.1 hX.2.1 hc hr hg hn v1 o.2.1 mi.1 mi.2.1
    exact ⟨_, _, _, _, _, _, _, _, _, _, _, _, e1, e2, rfl, iW, Or.inr ⟨(B', X.2), ⟨q1, q2, q6.2.2.1⟩, q3, q4, q5, q6⟩, iO⟩
theorem pk_set {o : qO} {ln : qL} {c : qC} {tr : qC} {g : qG} {sh : qQ} {sw : qF} {mi : q_mi} {mw : q_mw} {mp : q_mp} {ml : q_ml} {mb : q_mb} {mu : q_mu} {ms : q_ms} {mk : q_mk} {mo : q_mo} {mt : q_mt} (hB : lwB o ln c g sw mi mw ml mb mu mo) (v1 : Int32) (v2 : Int32) (v3 : Int32) : ∃ (r0 : Int32) (k_status' : Int32) (k_lines_numbers' : Nat → Int32) (k_chart_walls' : Int64) (k_log_done' : Int32) (k_log_undone' : Int32) (k_status'' : Int32) (k_thrown'' : Int32) (k_undoMany'' : Int32) (k_redoMany'' : Int32) (k_numbers'' : Nat → Int32) (k_wall'' : Nat → Int32) (k_who'' : Nat → Int32) (k_here'' : Nat → Int32) (k_oldNumbers'' : Nat → Int32), f_BargeBasin_set v1 v2 v3 o.2.1 ln.1 ln.2.1 ln.2.2.1 c.1 c.2.1 c.2.2.2.1 c.2.2.2.2.1 g.2.1 g.2.2.1 = some (r0, k_status', k_lines_numbers', k_chart_walls', k_log_done', k_log_undone') ∧ f_BargeBasinModel_set v1 v2 v3 mi.1 mi.2.1 mi.2.2.1 mi.2.2.2.1 mi.2.2.2.2.1 mi.2.2.2.2.2.1 mi.2.2.2.2.2.2.1 mi.2.2.2.2.2.2.2 ml.1 ml.2.1 ml.2.2.1 ml.2.2.2 mb.1 mb.2.1 mb.2.2.1 mb.2.2.2.1 mt.2.2.2.1 mt.2.2.2.2.1 mt.2.2.2.2.2.2.1 = some (r0, k_status'', k_thrown'', k_undoMany'', k_redoMany'', k_numbers'', k_wall'', k_who'', k_here'', k_oldNumbers'') ∧ lwB (o.1, k_status', o.2.2.1, o.2.2.2.1, o.2.2.2.2) (ln.1, ln.2.1, k_lines_numbers', ln.2.2.2) (c.1, c.2.1, c.2.2.1, k_chart_walls', c.2.2.2.2.1, c.2.2.2.2.2.1, c.2.2.2.2.2.2.1, c.2.2.2.2.2.2.2.1, c.2.2.2.2.2.2.2.2.1, c.2.2.2.2.2.2.2.2.2.1, c.2.2.2.2.2.2.2.2.2.2.1, c.2.2.2.2.2.2.2.2.2.2.2.1, c.2.2.2.2.2.2.2.2.2.2.2.2) (g.1, k_log_done', k_log_undone', g.2.2.2) sw (k_status'', k_thrown'', mi.2.2.1, mi.2.2.2.1, mi.2.2.2.2.1, mi.2.2.2.2.2.1, k_undoMany'', k_redoMany'') mw (ml.1, ml.2.1, k_numbers'', k_wall'') mb mu mo := by
  obtain ⟨iS, iW, iB, iO⟩ := hB
  rcases iB with ⟨h0, h1, h9⟩ | ⟨X, hX, hc, hr, hg, hn⟩
  · obtain ⟨cw0, cr⟩ := c
    obtain ⟨m0, m1, mh, mr⟩ := mi
    replace h0 : cw0 = 0 := h0
    replace h1 : mh = 0 := h1
    subst h0
    subst h1
    exact ⟨_, _, _, _, _, _, _, _, _, _, _, _, _, _, _, (nb_BargeBasin_set _ _ _ _ _ _ _ _ _ _ _ _), (nb_BargeBasinModel_set _ _ _ _ _ _ _ _ _ _ _ _ _ _ _ _ _ _ _ _ _), rfl, iW, Or.inl ⟨rfl, rfl, h9⟩, iO⟩
  · obtain ⟨ans, st', cnum', cwl', ld', lu', um', rm', lnum', kwl', kwho', khe', old', B', e1, e2, qd, q1, q2, q3, q4, q5, q6⟩ := eq_set hX.1 hX.2.1 hc hr hg hn v1 v2 v3 o.2.1 mi.1 mi.2.1 mt.2.2.2.1 mt.2.2.2.2.1 mt.2.2.2.2.2.2.1
    exact ⟨_, _, _, _, _, _, _, _, _, _, _, _, _, _, _, e1, e2, rfl, iW, Or.inr ⟨(B', X.2), ⟨q1, q2, q6.2.2.1⟩, q3, q4, q5, q6⟩, iO⟩
theorem pk_line {o : qO} {ln : qL} {c : qC} {tr : qC} {g : qG} {sh : qQ} {sw : qF} {mi : q_mi} {mw : q_mw} {mp : q_mp} {ml : q_ml} {mb : q_mb} {mu : q_mu} {ms : q_ms} {mk : q_mk} {mo : q_mo} {mt : q_mt} (hB : lwB o ln c g sw mi mw ml mb mu mo) (v1 : Int32) (v2 : Int32) (v3 : Int32) : ∃ (r0 : Int32) (k_status' : Int32) (k_lines_sort' : Nat → Int32) (k_lines_size' : Nat → Int32) (k_lines_numbers' : Nat → Int32) (k_chart_walls' : Int64) (k_log_done' : Int32) (k_log_undone' : Int32) (k_status'' : Int32) (k_thrown'' : Int32) (k_undoMany'' : Int32) (k_redoMany'' : Int32) (k_lineSort'' : Nat → Int32) (k_lineMany'' : Nat → Int32) (k_numbers'' : Nat → Int32) (k_wall'' : Nat → Int32) (k_who'' : Nat → Int32) (k_here'' : Nat → Int32) (k_oldNumbers'' : Nat → Int32), f_BargeBasin_line v1 v2 v3 o.2.1 ln.1 ln.2.1 ln.2.2.1 c.1 c.2.1 c.2.2.2.1 c.2.2.2.2.1 g.2.1 g.2.2.1 = some (r0, k_status', k_lines_sort', k_lines_size', k_lines_numbers', k_chart_walls', k_log_done', k_log_undone') ∧ f_BargeBasinModel_line v1 v2 v3 mi.1 mi.2.1 mi.2.2.1 mi.2.2.2.1 mi.2.2.2.2.1 mi.2.2.2.2.2.1 mi.2.2.2.2.2.2.1 mi.2.2.2.2.2.2.2 ml.1 ml.2.1 ml.2.2.1 ml.2.2.2 mb.1 mb.2.1 mb.2.2.1 mb.2.2.2.1 mt.2.2.2.1 mt.2.2.2.2.1 mt.2.2.2.2.2.2.1 = some (r0, k_status'', k_thrown'', k_undoMany'', k_redoMany'', k_lineSort'', k_lineMany'', k_numbers'', k_wall'', k_who'', k_here'', k_oldNumbers'') ∧ lwB (o.1, k_status', o.2.2.1, o.2.2.2.1, o.2.2.2.2) (k_lines_sort', k_lines_size', k_lines_numbers', ln.2.2.2) (c.1, c.2.1, c.2.2.1, k_chart_walls', c.2.2.2.2.1, c.2.2.2.2.2.1, c.2.2.2.2.2.2.1, c.2.2.2.2.2.2.2.1, c.2.2.2.2.2.2.2.2.1, c.2.2.2.2.2.2.2.2.2.1, c.2.2.2.2.2.2.2.2.2.2.1, c.2.2.2.2.2.2.2.2.2.2.2.1, c.2.2.2.2.2.2.2.2.2.2.2.2) (g.1, k_log_done', k_log_undone', g.2.2.2) sw (k_status'', k_thrown'', mi.2.2.1, mi.2.2.2.1, mi.2.2.2.2.1, mi.2.2.2.2.2.1, k_undoMany'', k_redoMany'') mw (k_lineSort'', k_lineMany'', k_numbers'', k_wall'') mb mu mo := by
  obtain ⟨iS, iW, iB, iO⟩ := hB
  rcases iB with ⟨h0, h1, h9⟩ | ⟨X, hX, hc, hr, hg, hn⟩
  · obtain ⟨cw0, cr⟩ := c
    obtain ⟨m0, m1, mh, mr⟩ := mi
    replace h0 : cw0 = 0 := h0
    replace h1 : mh = 0 := h1
    subst h0
    subst h1
    exact ⟨_, _, _, _, _, _, _, _, _, _, _, _, _, _, _, _, _, _, _, (nb_BargeBasin_line _ _ _ _ _ _ _ _ _ _ _ _), (nb_BargeBasinModel_line _ _ _ _ _ _ _ _ _ _ _ _ _ _ _ _ _ _ _ _ _), rfl, iW, Or.inl ⟨rfl, rfl, h9⟩, iO⟩
  · obtain ⟨ans, st', csort', csize', cnum', cwl', ld', lu', um', rm', lsort', lmany', lnum', kwl', kwho', khe', old', B', e1, e2, qd, q1, q2, q3, q4, q5, q6⟩ := eq_line hX.1 hX.2.1 hc hr hg hn v1 v2 v3 o.2.1 mi.1 mi.2.1 mt.2.2.2.1 mt.2.2.2.2.1 mt.2.2.2.2.2.2.1
    exact ⟨_, _, _, _, _, _, _, _, _, _, _, _, _, _, _, _, _, _, _, e1, e2, rfl, iW, Or.inr ⟨(B', X.2), ⟨q1, q2, q6.2.2.1⟩, q3, q4, q5, q6⟩, iO⟩
theorem pk_carry {o : qO} {ln : qL} {c : qC} {tr : qC} {g : qG} {sh : qQ} {sw : qF} {mi : q_mi} {mw : q_mw} {mp : q_mp} {ml : q_ml} {mb : q_mb} {mu : q_mu} {ms : q_ms} {mk : q_mk} {mo : q_mo} {mt : q_mt} (hB : lwB o ln c g sw mi mw ml mb mu mo) (v1 : Int32) (v2 : Int32) (v3 : Int32) (v4 : Int32) (v5 : Int32) : ∃ (r0 : Int32) (k_status' : Int32) (k_lines_numbers' : Nat → Int32) (k_lines_carried' : Nat → Int32) (k_chart_walls' : Int64) (k_log_done' : Int32) (k_log_undone' : Int32) (k_status'' : Int32) (k_thrown'' : Int32) (k_undoMany'' : Int32) (k_redoMany'' : Int32) (k_numbers'' : Nat → Int32) (k_wall'' : Nat → Int32) (k_who'' : Nat → Int32) (k_here'' : Nat → Int32) (k_oldNumbers'' : Nat → Int32), f_BargeBasin_carry v1 v2 v3 v4 v5 o.2.1 ln.1 ln.2.1 ln.2.2.1 ln.2.2.2 c.1 c.2.1 c.2.2.2.1 c.2.2.2.2.1 g.2.1 g.2.2.1 = some (r0, k_status', k_lines_numbers', k_lines_carried', k_chart_walls', k_log_done', k_log_undone') ∧ f_BargeBasinModel_carry v1 v2 v3 v4 v5 mi.1 mi.2.1 mi.2.2.1 mi.2.2.2.1 mi.2.2.2.2.1 mi.2.2.2.2.2.1 mi.2.2.2.2.2.2.1 mi.2.2.2.2.2.2.2 ml.1 ml.2.1 ml.2.2.1 ml.2.2.2 mb.1 mb.2.1 mb.2.2.1 mb.2.2.2.1 mt.2.2.2.1 mt.2.2.2.2.1 mt.2.2.2.2.2.2.1 = some (r0, k_status'', k_thrown'', k_undoMany'', k_redoMany'', k_numbers'', k_wall'', k_who'', k_here'', k_oldNumbers'') ∧ lwB (o.1, k_status', o.2.2.1, o.2.2.2.1, o.2.2.2.2) (ln.1, ln.2.1, k_lines_numbers', k_lines_carried') (c.1, c.2.1, c.2.2.1, k_chart_walls', c.2.2.2.2.1, c.2.2.2.2.2.1, c.2.2.2.2.2.2.1, c.2.2.2.2.2.2.2.1, c.2.2.2.2.2.2.2.2.1, c.2.2.2.2.2.2.2.2.2.1, c.2.2.2.2.2.2.2.2.2.2.1, c.2.2.2.2.2.2.2.2.2.2.2.1, c.2.2.2.2.2.2.2.2.2.2.2.2) (g.1, k_log_done', k_log_undone', g.2.2.2) sw (k_status'', k_thrown'', mi.2.2.1, mi.2.2.2.1, mi.2.2.2.2.1, mi.2.2.2.2.2.1, k_undoMany'', k_redoMany'') mw (ml.1, ml.2.1, k_numbers'', k_wall'') mb mu mo := by
  obtain ⟨iS, iW, iB, iO⟩ := hB
  rcases iB with ⟨h0, h1, h9⟩ | ⟨X, hX, hc, hr, hg, hn⟩
  · obtain ⟨cw0, cr⟩ := c
    obtain ⟨m0, m1, mh, mr⟩ := mi
    replace h0 : cw0 = 0 := h0
    replace h1 : mh = 0 := h1
    subst h0
    subst h1
    exact ⟨_, _, _, _, _, _, _, _, _, _, _, _, _, _, _, _, (nb_BargeBasin_carry _ _ _ _ _ _ _ _ _ _ _ _ _ _ _), (nb_BargeBasinModel_carry _ _ _ _ _ _ _ _ _ _ _ _ _ _ _ _ _ _ _ _ _ _ _), rfl, iW, Or.inl ⟨rfl, rfl, h9⟩, iO⟩
  · obtain ⟨ans, st', cnum', car', cwl', ld', lu', um', rm', lnum', kwl', kwho', khe', old', B', e1, e2, qd, q1, q2, q3, q4, q5, q6⟩ := eq_carry hX.1 hX.2.1 hc hr hg hn v1 v2 v3 v4 v5 o.2.1 mi.1 mi.2.1 ln.2.2.2 mt.2.2.2.1 mt.2.2.2.2.1 mt.2.2.2.2.2.2.1
    exact ⟨_, _, _, _, _, _, _, _, _, _, _, _, _, _, _, _, e1, e2, rfl, iW, Or.inr ⟨(B', X.2), ⟨q1, q2, q6.2.2.1⟩, q3, q4, q5, q6⟩, iO⟩
theorem pk_turn {o : qO} {ln : qL} {c : qC} {tr : qC} {g : qG} {sh : qQ} {sw : qF} {mi : q_mi} {mw : q_mw} {mp : q_mp} {ml : q_ml} {mb : q_mb} {mu : q_mu} {ms : q_ms} {mk : q_mk} {mo : q_mo} {mt : q_mt} (hB : lwB o ln c g sw mi mw ml mb mu mo) (v1 : Bool) : ∃ (r0 : Int32) (k_status' : Int32) (k_lines_sort' : Nat → Int32) (k_lines_size' : Nat → Int32) (k_lines_numbers' : Nat → Int32) (k_chart_width' : Int32) (k_chart_height' : Int32) (k_chart_walls' : Int64) (k_chart_taken' : Int64) (k_chart_place' : Nat → Int32) (k_chart_gate' : Nat → Int32) (k_chart_across' : Nat → Int32) (k_chart_wide' : Nat → Int32) (k_chart_high' : Nat → Int32) (k_chart_shape' : Nat → Int64) (k_log_done' : Int32) (k_log_undone' : Int32) (k_status'' : Int32) (k_thrown'' : Int32) (k_width'' : Int32) (k_height'' : Int32) (k_undoMany'' : Int32) (k_redoMany'' : Int32) (k_lineSort'' : Nat → Int32) (k_lineMany'' : Nat → Int32) (k_numbers'' : Nat → Int32) (k_wall'' : Nat → Int32) (k_at'' : Nat → Int32) (k_way'' : Nat → Int32) (k_gate'' : Nat → Int32) (k_newWall'' : Nat → Int32), f_BargeBasin_turn (bI v1) o.2.1 ln.1 ln.2.1 ln.2.2.1 c.1 c.2.1 c.2.2.1 c.2.2.2.1 c.2.2.2.2.1 c.2.2.2.2.2.1 c.2.2.2.2.2.2.1 c.2.2.2.2.2.2.2.1 c.2.2.2.2.2.2.2.2.1 c.2.2.2.2.2.2.2.2.2.1 c.2.2.2.2.2.2.2.2.2.2.1 c.2.2.2.2.2.2.2.2.2.2.2.1 c.2.2.2.2.2.2.2.2.2.2.2.2 g.2.1 g.2.2.1 = some (r0, k_status', k_lines_sort', k_lines_size', k_lines_numbers', k_chart_width', k_chart_height', k_chart_walls', k_chart_taken', k_chart_place', k_chart_gate', k_chart_across', k_chart_wide', k_chart_high', k_chart_shape', k_log_done', k_log_undone') ∧ f_BargeBasinModel_turn (bI v1) mi.1 mi.2.1 mi.2.2.1 mi.2.2.2.1 mi.2.2.2.2.1 mi.2.2.2.2.2.1 mi.2.2.2.2.2.2.1 mi.2.2.2.2.2.2.2 ml.1 ml.2.1 ml.2.2.1 ml.2.2.2 mb.1 mb.2.1 mb.2.2.1 mb.2.2.2.1 mb.2.2.2.2 mt.2.2.2.2.2.2.2.1 = some (r0, k_status'', k_thrown'', k_width'', k_height'', k_undoMany'', k_redoMany'', k_lineSort'', k_lineMany'', k_numbers'', k_wall'', k_at'', k_way'', k_gate'', k_newWall'') ∧ lwB (o.1, k_status', o.2.2.1, o.2.2.2.1, o.2.2.2.2) (k_lines_sort', k_lines_size', k_lines_numbers', ln.2.2.2) (k_chart_width', k_chart_height', c.2.2.1, k_chart_walls', k_chart_taken', c.2.2.2.2.2.1, k_chart_place', c.2.2.2.2.2.2.2.1, k_chart_gate', k_chart_across', k_chart_wide', k_chart_high', k_chart_shape') (g.1, k_log_done', k_log_undone', g.2.2.2) sw (k_status'', k_thrown'', mi.2.2.1, k_width'', k_height'', mi.2.2.2.2.2.1, k_undoMany'', k_redoMany'') mw (k_lineSort'', k_lineMany'', k_numbers'', k_wall'') (mb.1, k_at'', mb.2.2.1, k_way'', k_gate'') mu mo := by
  obtain ⟨iS, iW, iB, iO⟩ := hB
  rcases iB with ⟨h0, h1, h9⟩ | ⟨X, hX, hc, hr, hg, hn⟩
  · obtain ⟨cw0, cr⟩ := c
    obtain ⟨m0, m1, mh, mr⟩ := mi
    replace h0 : cw0 = 0 := h0
    replace h1 : mh = 0 := h1
    subst h0
    subst h1
    exact ⟨_, _, _, _, _, _, _, _, _, _, _, _, _, _, _, _, _, _, _, _, _, _, _, _, _, _, _, _, _, _, _, (nb_BargeBasin_turn _ _ _ _ _ _ _ _ _ _ _ _ _ _ _ _ _ _ _), (nb_BargeBasinModel_turn _ _ _ _ _ _ _ _ _ _ _ _ _ _ _ _ _ _), rfl, iW, Or.inl ⟨rfl, rfl, h9⟩, iO⟩
  · obtain ⟨csort', csize', cnum', cw', chh', cwl', ct', cp', cg', ca', cwd', chg', cs', kw', kh', lsort', lmany', lnum', kwl', kat', ky', kg', nw', e1, e2, q1, q2, q3, q4, q5, q6⟩ := eq_turn hX.1 hX.2.1 hc hr hg hn v1 o.2.1 mi.1 mi.2.1 mt.2.2.2.2.2.2.2.1
    exact ⟨_, _, _, _, _, _, _, _, _, _, _, _, _, _, _, _, _, _, _, _, _, _, _, _, _, _, _, _, _, _, _, e1, e2, rfl, iW, Or.inr ⟨(tuB v1 X.1, tuP v1 X.1 X.2), ⟨q1, q2, q6.2.2.1⟩, q3, q4, q5, q6⟩, iO⟩
theorem pk_make {o : qO} {ln : qL} {c : qC} {tr : qC} {g : qG} {sh : qQ} {sw : qF} {mi : q_mi} {mw : q_mw} {mp : q_mp} {ml : q_ml} {mb : q_mb} {mu : q_mu} {ms : q_ms} {mk : q_mk} {mo : q_mo} {mt : q_mt} (hB : lwB o ln c g sw mi mw ml mb mu mo) (v1 : Int32) (v2 : Int32) : ∃ (r0 : Int32) (k_status' : Int32) (k_chart_barges' : Int32) (k_chart_taken' : Int64) (k_chart_kind' : Nat → Int32) (k_chart_place' : Nat → Int32) (k_chart_length' : Nat → Int32) (k_chart_gate' : Nat → Int32) (k_chart_across' : Nat → Int32) (k_chart_wide' : Nat → Int32) (k_chart_high' : Nat → Int32) (k_chart_shape' : Nat → Int64) (k_log_done' : Int32) (k_log_undone' : Int32) (k_status'' : Int32) (k_thrown'' : Int32) (k_barges'' : Int32) (k_undoMany'' : Int32) (k_redoMany'' : Int32) (k_seed'' : Int32) (k_kind'' : Nat → Int32) (k_at'' : Nat → Int32) (k_size'' : Nat → Int32) (k_way'' : Nat → Int32) (k_gate'' : Nat → Int32) (k_who'' : Nat → Int32) (k_here'' : Nat → Int32), f_BargeBasin_make v1 v2 o.2.1 c.1 c.2.1 c.2.2.1 c.2.2.2.1 c.2.2.2.2.1 c.2.2.2.2.2.1 c.2.2.2.2.2.2.1 c.2.2.2.2.2.2.2.1 c.2.2.2.2.2.2.2.2.1 c.2.2.2.2.2.2.2.2.2.1 c.2.2.2.2.2.2.2.2.2.2.1 c.2.2.2.2.2.2.2.2.2.2.2.1 c.2.2.2.2.2.2.2.2.2.2.2.2 g.2.1 g.2.2.1 = some (r0, k_status', k_chart_barges', k_chart_taken', k_chart_kind', k_chart_place', k_chart_length', k_chart_gate', k_chart_across', k_chart_wide', k_chart_high', k_chart_shape', k_log_done', k_log_undone') ∧ f_BargeBasinModel_make v1 v2 mi.1 mi.2.1 mi.2.2.1 mi.2.2.2.1 mi.2.2.2.2.1 mi.2.2.2.2.2.1 mi.2.2.2.2.2.2.1 mi.2.2.2.2.2.2.2 mt.1 ml.2.2.2 mb.1 mb.2.1 mb.2.2.1 mb.2.2.2.1 mb.2.2.2.2 mt.2.2.2.1 mt.2.2.2.2.1 = some (r0, k_status'', k_thrown'', k_barges'', k_undoMany'', k_redoMany'', k_seed'', k_kind'', k_at'', k_size'', k_way'', k_gate'', k_who'', k_here'') ∧ lwB (o.1, k_status', o.2.2.1, o.2.2.2.1, o.2.2.2.2) ln (c.1, c.2.1, k_chart_barges', c.2.2.2.1, k_chart_taken', k_chart_kind', k_chart_place', k_chart_length', k_chart_gate', k_chart_across', k_chart_wide', k_chart_high', k_chart_shape') (g.1, k_log_done', k_log_undone', g.2.2.2) sw (k_status'', k_thrown'', mi.2.2.1, mi.2.2.2.1, mi.2.2.2.2.1, k_barges'', k_undoMany'', k_redoMany'') mw ml (k_kind'', k_at'', k_size'', k_way'', k_gate'') mu mo := by
  obtain ⟨iS, iW, iB, iO⟩ := hB
  rcases iB with ⟨h0, h1, h9⟩ | ⟨X, hX, hc, hr, hg, hn⟩
  · obtain ⟨cw0, cr⟩ := c
    obtain ⟨m0, m1, mh, mr⟩ := mi
    replace h0 : cw0 = 0 := h0
    replace h1 : mh = 0 := h1
    subst h0
    subst h1
    exact ⟨_, _, _, _, _, _, _, _, _, _, _, _, _, _, _, _, _, _, _, _, _, _, _, _, _, _, _, (nb_BargeBasin_make _ _ _ _ _ _ _ _ _ _ _ _ _ _ _ _ _), (nb_BargeBasinModel_make _ _ _ _ _ _ _ _ _ _ _ _ _ _ _ _ _ _), rfl, iW, Or.inl ⟨rfl, rfl, h9⟩, iO⟩
  · obtain ⟨ans, st', cn', ct', ck', cp', cl', cg', ca', cwd', chg', cs', ld', lu', kn', um', rm', sd', kk', kat', ks', ky', kg', kwho', khe', B', Q, e1, e2, qs, q1, q2, q3, q4, q5⟩ := eq_make hX.1 hX.2.1 hc hr hg v1 v2 o.2.1 mi.1 mi.2.1 mt.1 mt.2.2.2.1 mt.2.2.2.2.1
    have hn' : lnR B' ln.1 ln.2.1 ln.2.2.1 ml.1 ml.2.1 ml.2.2.1 := ln_sam qs hn
    exact ⟨_, _, _, _, _, _, _, _, _, _, _, _, _, _, _, _, _, _, _, _, _, _, _, _, _, _, _, e1, e2, rfl, iW, Or.inr ⟨(B', Q), ⟨q1, q2, hn'.2.2.1⟩, q3, q4, q5, hn'⟩, iO⟩
theorem pk_show {o : qO} {ln : qL} {c : qC} {tr : qC} {g : qG} {sh : qQ} {sw : qF} {mi : q_mi} {mw : q_mw} {mp : q_mp} {ml : q_ml} {mb : q_mb} {mu : q_mu} {ms : q_ms} {mk : q_mk} {mo : q_mo} {mt : q_mt} (hB : lwB o ln c g sw mi mw ml mb mu mo) (v1 : Int32) : ∃ (r0 : Int32) (k_shownCount' : Int32) (k_status' : Int32) (k_shown' : Nat → Int32) (k_status'' : Int32) (k_thrown'' : Int32) (k_outs'' : Int32) (k_who'' : Nat → Int32) (k_here'' : Nat → Int32) (k_out'' : Nat → Int32), f_BargeBasin_show v1 o.1 o.2.1 c.1 c.2.1 c.2.2.1 c.2.2.2.1 c.2.2.2.2.2.1 c.2.2.2.2.2.2.1 c.2.2.2.2.2.2.2.2.2.2.2.2 sw = some (r0, k_shownCount', k_status', k_shown') ∧ f_BargeBasinModel_show v1 mi.1 mi.2.1 mi.2.2.1 mi.2.2.2.1 mi.2.2.2.2.1 mi.2.2.2.2.2.1 mo.1 ml.2.2.2 mb.1 mb.2.1 mb.2.2.1 mb.2.2.2.1 mt.2.2.2.1 mt.2.2.2.2.1 mo.2 = some (r0, k_status'', k_thrown'', k_outs'', k_who'', k_here'', k_out'') ∧ lwB (k_shownCount', k_status', o.2.2.1, o.2.2.2.1, o.2.2.2.2) ln c g k_shown' (k_status'', k_thrown'', mi.2.2.1, mi.2.2.2.1, mi.2.2.2.2.1, mi.2.2.2.2.2.1, mi.2.2.2.2.2.2.1, mi.2.2.2.2.2.2.2) mw ml mb mu (k_outs'', k_out'') := by
  obtain ⟨iS, iW, iB, iO⟩ := hB
  rcases iB with ⟨h0, h1, h9⟩ | ⟨X, hX, hc, hr, hg, hn⟩
  · obtain ⟨cw0, cr⟩ := c
    obtain ⟨m0, m1, mh, mr⟩ := mi
    replace h0 : cw0 = 0 := h0
    replace h1 : mh = 0 := h1
    subst h0
    subst h1
    exact ⟨_, _, _, _, _, _, _, _, _, _, (nb_BargeBasin_show _ _ _ _ _ _ _ _ _ _), (nb_BargeBasinModel_show _ _ _ _ _ _ _ _ _ _ _ _ _ _ _), rfl, iW, Or.inl ⟨rfl, rfl, h9⟩, iO⟩
  · obtain ⟨ans, st', cnt', outs', sh', out', kwho', khe', e1, e2, qo⟩ := eq_show hX.1 hX.2.1 hc hr iO v1 o.2.1 mi.1 mi.2.1 mt.2.2.2.1 mt.2.2.2.2.1
    exact ⟨_, _, _, _, _, _, _, _, _, _, e1, e2, rfl, iW, Or.inr ⟨X, hX, hc, hr, hg, hn⟩, qo⟩
