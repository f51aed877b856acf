theorem nb_BargeBasin_make (v1 v2 st chh cn : Int32) (cwl ct : Int64) (ck cp cl cg ca cwd chg : Nat → Int32) (cs : Nat → Int64) (ld lu : Int32) : f_BargeBasin_make v1 v2 st 0 chh cn cwl ct ck cp cl cg ca cwd chg cs ld lu = some (-1, 1, cn, ct, ck, cp, cl, cg, ca, cwd, chg, cs, ld, lu) := rfl
theorem nb_BargeBasinModel_make (v1 v2 st2 th kw kh kn um rm sd : Int32) (kwl kk kat ks ky kg kwho khe : Nat → Int32) : f_BargeBasinModel_make v1 v2 st2 th 0 kw kh kn um rm sd kwl kk kat ks ky kg kwho khe = some (-1, 1, (0 : Int32), kn, um, rm, sd, kk, kat, ks, ky, kg, kwho, khe) := rfl
theorem pk_room {o : qO} {ln : qL} {c : qC} {tr : qC} {g : qG} {sh : qQ} {sw : qF} {mi : q_mi} {mw : q_mw} {mp : q_mp} {ml : q_ml} {mb : q_mb} {mu : q_mu} {ms : q_ms} {mk : q_mk} {mo : q_mo} {mt : q_mt} (hB : lwB o ln c g sw mi mw ml mb mu mo) (v1 : Int32) (v2 : Int32) : ∃ (r0 : Int32) (k_status₉ : Int32) (k_status₉₉ : Int32) (k_thrown₉₉ : Int32) (k_who₉₉ : Nat → Int32) (k_here₉₉ : Nat → Int32), f_BargeBasin_room v1 v2 o.2.1 c.1 c.2.1 c.2.2.1 c.2.2.2.1 c.2.2.2.2.1 c.2.2.2.2.2.1 c.2.2.2.2.2.2.1 c.2.2.2.2.2.2.2.2.2.1 c.2.2.2.2.2.2.2.2.2.2.1 c.2.2.2.2.2.2.2.2.2.2.2.1 c.2.2.2.2.2.2.2.2.2.2.2.2 = some (r0, k_status₉) ∧ f_BargeBasinModel_room v1 v2 mi.1 mi.2.1 mi.2.2.1 mi.2.2.2.1 mi.2.2.2.2.1 mi.2.2.2.2.2.1 ml.2.2.2 mb.1 mb.2.1 mb.2.2.1 mb.2.2.2.1 mt.2.2.2.1 mt.2.2.2.2.1 = some (r0, k_status₉₉, k_thrown₉₉, k_who₉₉, k_here₉₉) ∧ lwB (o.1, k_status₉, o.2.2.1, o.2.2.2.1, o.2.2.2.2) ln c g sw (k_status₉₉, k_thrown₉₉, mi.2.2.1, mi.2.2.2.1, mi.2.2.2.2.1, mi.2.2.2.2.2.1, mi.2.2.2.2.2.2.1, mi.2.2.2.2.2.2.2) mw ml mb mu mo := by
  obtain ⟨iS, iW, iB, iO⟩ := hB
  rcases iB with ⟨h0, h1, h9⟩ | ⟨X, hX, hc, hr, hg, hn⟩
  · obtain ⟨cw0, cr⟩ := c
    obtain ⟨m0, m1, mh, mr⟩ := mi
    replace h0 : cw0 = 0 := h0
    replace h1 : mh = 0 := h1
    subst h0
    subst h1
    exact ⟨_, _, _, _, _, _, (nb_BargeBasin_room _ _ _ _ _ _ _ _ _ _ _ _ _), (nb_BargeBasinModel_room _ _ _ _ _ _ _ _ _ _ _ _ _ _), rfl, iW, Or.inl ⟨rfl, rfl, h9⟩, iO⟩
  · obtain ⟨ans, st₉, kwho₉, khe₉, e1, e2⟩ := eq_room hX.1 hX.2.1 hc hr v1 v2 o.2.1 mi.1 mi.2.1 mt.2.2.2.1 mt.2.2.2.2.1
    exact ⟨_, _, _, _, _, _, e1, e2, rfl, iW, Or.inr ⟨X, hX, hc, hr, hg, hn⟩, iO⟩
theorem pk_field {o : qO} {ln : qL} {c : qC} {tr : qC} {g : qG} {sh : qQ} {sw : qF} {mi : q_mi} {mw : q_mw} {mp : q_mp} {ml : q_ml} {mb : q_mb} {mu : q_mu} {ms : q_ms} {mk : q_mk} {mo : q_mo} {mt : q_mt} (hB : lwB o ln c g sw mi mw ml mb mu mo) (v1 : Int32) (v2 : Int32) : ∃ (r0 : Int32) (k_status₉ : Int32) (k_status₉₉ : Int32) (k_thrown₉₉ : Int32) (k_who₉₉ : Nat → Int32) (k_here₉₉ : Nat → Int32), f_BargeBasin_field v1 v2 o.2.1 c.1 c.2.1 c.2.2.1 c.2.2.2.1 c.2.2.2.2.2.2.1 c.2.2.2.2.2.2.2.2.2.2.2.2 = some (r0, k_status₉) ∧ f_BargeBasinModel_field v1 v2 mi.1 mi.2.1 mi.2.2.1 mi.2.2.2.1 mi.2.2.2.2.1 mi.2.2.2.2.2.1 ml.2.2.2 mb.1 mb.2.1 mb.2.2.1 mb.2.2.2.1 mt.2.2.2.1 mt.2.2.2.2.1 = some (r0, k_status₉₉, k_thrown₉₉, k_who₉₉, k_here₉₉) ∧ lwB (o.1, k_status₉, o.2.2.1, o.2.2.2.1, o.2.2.2.2) ln c g sw (k_status₉₉, k_thrown₉₉, mi.2.2.1, mi.2.2.2.1, mi.2.2.2.2.1, mi.2.2.2.2.2.1, mi.2.2.2.2.2.2.1, mi.2.2.2.2.2.2.2) mw ml mb mu mo := by
  obtain ⟨iS, iW, iB, iO⟩ := hB
  rcases iB with ⟨h0, h1, h9⟩ | ⟨X, hX, hc, hr, hg, hn⟩
  · obtain ⟨cw0, cr⟩ := c
    obtain ⟨m0, m1, mh, mr⟩ := mi
    replace h0 : cw0 = 0 := h0
    replace h1 : mh = 0 := h1
    subst h0
    subst h1
    exact ⟨_, _, _, _, _, _, (nb_BargeBasin_field _ _ _ _ _ _ _ _), (nb_BargeBasinModel_field _ _ _ _ _ _ _ _ _ _ _ _ _ _), rfl, iW, Or.inl ⟨rfl, rfl, h9⟩, iO⟩
  · obtain ⟨ans, st₉, kwho₉, khe₉, e1, e2⟩ := eq_field hX.1 hX.2.1 hc hr v1 v2 o.2.1 mi.1 mi.2.1 mt.2.2.2.1 mt.2.2.2.2.1
    exact ⟨_, _, _, _, _, _, e1, e2, rfl, iW, Or.inr ⟨X, hX, hc, hr, hg, hn⟩, iO⟩
theorem pk_lies {o : qO} {ln : qL} {c : qC} {tr : qC} {g : qG} {sh : qQ} {sw : qF} {mi : q_mi} {mw : q_mw} {mp : q_mp} {ml : q_ml} {mb : q_mb} {mu : q_mu} {ms : q_ms} {mk : q_mk} {mo : q_mo} {mt : q_mt} (hB : lwB o ln c g sw mi mw ml mb mu mo) (v1 : Int32) (v2 : Int32) : ∃ (r0 : Int32) (k_status₉ : Int32) (k_status₉₉ : Int32) (k_thrown₉₉ : Int32), f_BargeBasin_lies v1 v2 o.2.1 c.1 c.2.2.1 c.2.2.2.2.2.1 c.2.2.2.2.2.2.1 c.2.2.2.2.2.2.2.1 c.2.2.2.2.2.2.2.2.1 c.2.2.2.2.2.2.2.2.2.1 = some (r0, k_status₉) ∧ f_BargeBasinModel_lies v1 v2 mi.1 mi.2.1 mi.2.2.1 mi.2.2.2.2.2.1 mb.1 mb.2.1 mb.2.2.1 mb.2.2.2.1 mb.2.2.2.2 = some (r0, k_status₉₉, k_thrown₉₉) ∧ lwB (o.1, k_status₉, o.2.2.1, o.2.2.2.1, o.2.2.2.2) ln c g sw (k_status₉₉, k_thrown₉₉, mi.2.2.1, mi.2.2.2.1, mi.2.2.2.2.1, mi.2.2.2.2.2.1, mi.2.2.2.2.2.2.1, mi.2.2.2.2.2.2.2) mw ml mb mu mo := by
  obtain ⟨iS, iW, iB, iO⟩ := hB
  rcases iB with ⟨h0, h1, h9⟩ | ⟨X, hX, hc, hr, hg, hn⟩
  · obtain ⟨cw0, cr⟩ := c
    obtain ⟨m0, m1, mh, mr⟩ := mi
    replace h0 : cw0 = 0 := h0
    replace h1 : mh = 0 := h1
    subst h0
    subst h1
    exact ⟨_, _, _, _, (nb_BargeBasin_lies _ _ _ _ _ _ _ _ _), (nb_BargeBasinModel_lies _ _ _ _ _ _ _ _ _ _), rfl, iW, Or.inl ⟨rfl, rfl, h9⟩, iO⟩
  · obtain ⟨ans, st₉, e1, e2⟩ := eq_lies hX.1 hX.2.1 hc hr v1 v2 o.2.1 mi.1 mi.2.1
    exact ⟨_, _, _, _, e1, e2, rfl, iW, Or.inr ⟨X, hX, hc, hr, hg, hn⟩, iO⟩
theorem pk_count {o : qO} {ln : qL} {c : qC} {tr : qC} {g : qG} {sh : qQ} {sw : qF} {mi : q_mi} {mw : q_mw} {mp : q_mp} {ml : q_ml} {mb : q_mb} {mu : q_mu} {ms : q_ms} {mk : q_mk} {mo : q_mo} {mt : q_mt} (hB : lwB o ln c g sw mi mw ml mb mu mo) (v1 : Int32) : ∃ (r0 : Int32) (k_status₉ : Int32) (k_status₉₉ : Int32) (k_thrown₉₉ : Int32) (k_who₉₉ : Nat → Int32) (k_here₉₉ : Nat → Int32), f_BargeBasin_count v1 o.2.1 c.1 c.2.1 c.2.2.1 c.2.2.2.1 c.2.2.2.2.1 c.2.2.2.2.2.1 c.2.2.2.2.2.2.1 c.2.2.2.2.2.2.2.2.1 g.2.1 g.2.2.1 = some (r0, k_status₉) ∧ f_BargeBasinModel_count v1 mi.1 mi.2.1 mi.2.2.1 mi.2.2.2.1 mi.2.2.2.2.1 mi.2.2.2.2.2.1 mi.2.2.2.2.2.2.1 mi.2.2.2.2.2.2.2 ml.2.2.2 mb.1 mb.2.1 mb.2.2.1 mb.2.2.2.1 mb.2.2.2.2 mt.2.2.2.1 mt.2.2.2.2.1 = some (r0, k_status₉₉, k_thrown₉₉, k_who₉₉, k_here₉₉) ∧ lwB (o.1, k_status₉, o.2.2.1, o.2.2.2.1, o.2.2.2.2) ln c g sw (k_status₉₉, k_thrown₉₉, mi.2.2.1, mi.2.2.2.1, mi.2.2.2.2.1, mi.2.2.2.2.2.1, mi.2.2.2.2.2.2.1, mi.2.2.2.2.2.2.2) mw ml mb mu mo := by
  obtain ⟨iS, iW, iB, iO⟩ := hB
  rcases iB with ⟨h0, h1, h9⟩ | ⟨X, hX, hc, hr, hg, hn⟩
  · obtain ⟨cw0, cr⟩ := c
    obtain ⟨m0, m1, mh, mr⟩ := mi
    replace h0 : cw0 = 0 := h0
    replace h1 : mh = 0 := h1
    subst h0
    subst h1
    exact ⟨_, _, _, _, _, _, (nb_BargeBasin_count _ _ _ _ _ _ _ _ _ _ _), (nb_BargeBasinModel_count _ _ _ _ _ _ _ _ _ _ _ _ _ _ _ _), rfl, iW, Or.inl ⟨rfl, rfl, h9⟩, iO⟩
  · obtain ⟨ans, st₉, kwho₉, khe₉, e1, e2⟩ := eq_count hX.1 hX.2.1 hc hr hg hX.2.2 v1 o.2.1 mi.1 mi.2.1 mt.2.2.2.1 mt.2.2.2.2.1
    exact ⟨_, _, _, _, _, _, e1, e2, rfl, iW, Or.inr ⟨X, hX, hc, hr, hg, hn⟩, iO⟩
theorem pk_low {o : qO} {ln : qL} {c : qC} {tr : qC} {g : qG} {sh : qQ} {sw : qF} {mi : q_mi} {mw : q_mw} {mp : q_mp} {ml : q_ml} {mb : q_mb} {mu : q_mu} {ms : q_ms} {mk : q_mk} {mo : q_mo} {mt : q_mt} (hB : lwB o ln c g sw mi mw ml mb mu mo)  : ∃ (r0 : Int32) (k_status₉ : Int32) (k_status₉₉ : Int32) (k_thrown₉₉ : Int32) (k_who₉₉ : Nat → Int32) (k_here₉₉ : Nat → Int32) (k_counts₉₉ : Nat → Int32), f_BargeBasin_low o.2.1 c.1 c.2.2.1 c.2.2.2.2.2.1 c.2.2.2.2.2.2.1 c.2.2.2.2.2.2.2.2.1 c.2.2.2.2.2.2.2.2.2.1 c.2.2.2.2.2.2.2.2.2.2.2.2 = some (r0, k_status₉) ∧ f_BargeBasinModel_low mi.1 mi.2.1 mi.2.2.1 mi.2.2.2.2.2.1 mb.1 mb.2.1 mb.2.2.1 mb.2.2.2.1 mb.2.2.2.2 mt.2.2.2.1 mt.2.2.2.2.1 mt.2.2.2.2.2.1 = some (r0, k_status₉₉, k_thrown₉₉, k_who₉₉, k_here₉₉, k_counts₉₉) ∧ lwB (o.1, k_status₉, o.2.2.1, o.2.2.2.1, o.2.2.2.2) ln c g sw (k_status₉₉, k_thrown₉₉, mi.2.2.1, mi.2.2.2.1, mi.2.2.2.2.1, mi.2.2.2.2.2.1, mi.2.2.2.2.2.2.1, mi.2.2.2.2.2.2.2) mw ml mb mu mo := by
  obtain ⟨iS, iW, iB, iO⟩ := hB
  rcases iB with ⟨h0, h1, h9⟩ | ⟨X, hX, hc, hr, hg, hn⟩
  · obtain ⟨cw0, cr⟩ := c
    obtain ⟨m0, m1, mh, mr⟩ := mi
    replace h0 : cw0 = 0 := h0
    replace h1 : mh = 0 := h1
    subst h0
    subst h1
    exact ⟨_, _, _, _, _, _, _, (nb_BargeBasin_low _ _ _ _ _ _ _), (nb_BargeBasinModel_low _ _ _ _ _ _ _ _ _ _ _), rfl, iW, Or.inl ⟨rfl, rfl, h9⟩, iO⟩
  · obtain ⟨ans, st₉, kwho₉, khe₉, kc₉, e1, e2⟩ := eq_low hX.1 hX.2.1 hc hr o.2.1 mi.1 mi.2.1 mt.2.2.2.1 mt.2.2.2.2.1 mt.2.2.2.2.2.1
    exact ⟨_, _, _, _, _, _, _, e1, e2, rfl, iW, Or.inr ⟨X, hX, hc, hr, hg, hn⟩, iO⟩
theorem pk_slide {o : qO} {ln : qL} {c : qC} {tr : qC} {g : qG} {sh : qQ} {sw : qF} {mi : q_mi} {mw : q_mw} {mp : q_mp} {ml : q_ml} {mb : q_mb} {mu : q_mu} {ms : q_ms} {mk : q_mk} {mo : q_mo} {mt : q_mt} (hB : lwB o ln c g sw mi mw ml mb mu mo) (v1 : Int32) (v2 : Int32) (v3 : Int32) : ∃ (r0 : Int32) (k_status₉ : Int32) (k_whyStep₉ : Int32) (k_whyReason₉ : Int32) (k_whyBarge₉ : Int32) (k_chart_taken₉ : Int64) (k_chart_place₉ : Nat → Int32) (k_log_first₉ : Int32) (k_log_done₉ : Int32) (k_log_undone₉ : Int32) (k_log_moves₉ : Nat → Int32) (k_status₉₉ : Int32) (k_thrown₉₉ : Int32) (k_undoMany₉₉ : Int32) (k_redoMany₉₉ : Int32) (k_whyStep₉₉ : Int32) (k_whyWhat₉₉ : Int32) (k_whyWho₉₉ : Int32) (k_at₉₉ : Nat → Int32) (k_undoBarge₉₉ : Nat → Int32) (k_undoFrom₉₉ : Nat → Int32) (k_undoTo₉₉ : Nat → Int32) (k_who₉₉ : Nat → Int32) (k_here₉₉ : Nat → Int32), f_BargeBasin_slide v1 v2 v3 o.2.1 o.2.2.1 o.2.2.2.1 o.2.2.2.2 c.1 c.2.1 c.2.2.1 c.2.2.2.1 c.2.2.2.2.1 c.2.2.2.2.2.1 c.2.2.2.2.2.2.1 c.2.2.2.2.2.2.2.2.2.1 c.2.2.2.2.2.2.2.2.2.2.1 c.2.2.2.2.2.2.2.2.2.2.2.1 c.2.2.2.2.2.2.2.2.2.2.2.2 g.1 g.2.1 g.2.2.1 g.2.2.2 = some (r0, k_status₉, k_whyStep₉, k_whyReason₉, k_whyBarge₉, k_chart_taken₉, k_chart_place₉, k_log_first₉, k_log_done₉, k_log_undone₉, k_log_moves₉) ∧ f_BargeBasinModel_slide v1 v2 v3 mi.1 mi.2.1 mi.2.2.1 mi.2.2.2.1 mi.2.2.2.2.1 mi.2.2.2.2.2.1 mi.2.2.2.2.2.2.1 mi.2.2.2.2.2.2.2 mw.1 mw.2.1 mw.2.2 ml.2.2.2 mb.1 mb.2.1 mb.2.2.1 mb.2.2.2.1 mu.1 mu.2.1 mu.2.2.1 mt.2.2.2.1 mt.2.2.2.2.1 = some (r0, k_status₉₉, k_thrown₉₉, k_undoMany₉₉, k_redoMany₉₉, k_whyStep₉₉, k_whyWhat₉₉, k_whyWho₉₉, k_at₉₉, k_undoBarge₉₉, k_undoFrom₉₉, k_undoTo₉₉, k_who₉₉, k_here₉₉) ∧ lwB (o.1, k_status₉, k_whyStep₉, k_whyReason₉, k_whyBarge₉) ln (c.1, c.2.1, c.2.2.1, c.2.2.2.1, k_chart_taken₉, c.2.2.2.2.2.1, k_chart_place₉, c.2.2.2.2.2.2.2.1, c.2.2.2.2.2.2.2.2.1, c.2.2.2.2.2.2.2.2.2.1, c.2.2.2.2.2.2.2.2.2.2.1, c.2.2.2.2.2.2.2.2.2.2.2.1, c.2.2.2.2.2.2.2.2.2.2.2.2) (k_log_first₉, k_log_done₉, k_log_undone₉, k_log_moves₉) sw (k_status₉₉, k_thrown₉₉, mi.2.2.1, mi.2.2.2.1, mi.2.2.2.2.1, mi.2.2.2.2.2.1, k_undoMany₉₉, k_redoMany₉₉) (k_whyStep₉₉, k_whyWhat₉₉, k_whyWho₉₉) ml (mb.1, k_at₉₉, mb.2.2.1, mb.2.2.2.1, mb.2.2.2.2) (k_undoBarge₉₉, k_undoFrom₉₉, k_undoTo₉₉, mu.2.2.2.1, mu.2.2.2.2.1, mu.2.2.2.2.2) mo := by
  obtain ⟨iS, iW, iB, iO⟩ := hB
  rcases iB with ⟨h0, h1, h9⟩ | ⟨X, hX, hc, hr, hg, hn⟩
  · obtain ⟨cw0, cr⟩ := c
    obtain ⟨m0, m1, mh, mr⟩ := mi
    replace h0 : cw0 = 0 := h0
    replace h1 : mh = 0 := h1
    subst h0
    subst h1
    exact ⟨_, _, _, _, _, _, _, _, _, _, _, _, _, _, _, _, _, _, _, _, _, _, _, _, (nb_BargeBasin_slide _ _ _ _ _ _ _ _ _ _ _ _ _ _ _ _ _ _ _ _ _), (nb_BargeBasinModel_slide _ _ _ _ _ _ _ _ _ _ _ _ _ _ _ _ _ _ _ _ _ _ _), rfl, iW, Or.inl ⟨rfl, rfl, h9⟩, iO⟩
  · obtain ⟨ans, st₉, w1₉, w2₉, w3₉, ct₉, cp₉, lf₉, ld₉, lu₉, lm₉, um₉, rm₉, kat₉, ub₉, uf₉, ut₉, kwho₉, khe₉, Q, e1, e2, q1, q2, q3, q4, q5⟩ := eq_slide hX.1 hX.2.1 hc hr hg v1 v2 v3 o.2.1 mi.1 mi.2.1 o.2.2.1 o.2.2.2.1 o.2.2.2.2 mt.2.2.2.1 mt.2.2.2.2.1
    subst iW
    exact ⟨_, _, _, _, _, _, _, _, _, _, _, _, _, _, _, _, _, _, _, _, _, _, _, _, e1, e2, rfl, rfl, Or.inr ⟨(X.1, Q), ⟨hX.1, q1, hX.2.2⟩, ch_mv hc q2 q3, rf_mv hr q4, q5, hn⟩, iO⟩
theorem pk_undo {o : qO} {ln : qL} {c : qC} {tr : qC} {g : qG} {sh : qQ} {sw : qF} {mi : q_mi} {mw : q_mw} {mp : q_mp} {ml : q_ml} {mb : q_mb} {mu : q_mu} {ms : q_ms} {mk : q_mk} {mo : q_mo} {mt : q_mt} (hB : lwB o ln c g sw mi mw ml mb mu mo)  : ∃ (r0 : Int32) (k_status₉ : Int32) (k_chart_taken₉ : Int64) (k_chart_place₉ : Nat → Int32) (k_log_done₉ : Int32) (k_log_undone₉ : Int32) (k_status₉₉ : Int32) (k_thrown₉₉ : Int32) (k_undoMany₉₉ : Int32) (k_redoMany₉₉ : Int32) (k_at₉₉ : Nat → Int32) (k_redoBarge₉₉ : Nat → Int32) (k_redoFrom₉₉ : Nat → Int32) (k_redoTo₉₉ : Nat → Int32), f_BargeBasin_undo o.2.1 c.1 c.2.2.2.2.1 c.2.2.2.2.2.2.1 c.2.2.2.2.2.2.2.2.2.2.2.2 g.1 g.2.1 g.2.2.1 g.2.2.2 = some (r0, k_status₉, k_chart_taken₉, k_chart_place₉, k_log_done₉, k_log_undone₉) ∧ f_BargeBasinModel_undo mi.1 mi.2.1 mi.2.2.1 mi.2.2.2.2.2.2.1 mi.2.2.2.2.2.2.2 mb.2.1 mu.1 mu.2.1 mu.2.2.1 mu.2.2.2.1 mu.2.2.2.2.1 mu.2.2.2.2.2 = some (r0, k_status₉₉, k_thrown₉₉, k_undoMany₉₉, k_redoMany₉₉, k_at₉₉, k_redoBarge₉₉, k_redoFrom₉₉, k_redoTo₉₉) ∧ lwB (o.1, k_status₉, o.2.2.1, o.2.2.2.1, o.2.2.2.2) ln (c.1, c.2.1, c.2.2.1, c.2.2.2.1, k_chart_taken₉, c.2.2.2.2.2.1, k_chart_place₉, c.2.2.2.2.2.2.2.1, c.2.2.2.2.2.2.2.2.1, c.2.2.2.2.2.2.2.2.2.1, c.2.2.2.2.2.2.2.2.2.2.1, c.2.2.2.2.2.2.2.2.2.2.2.1, c.2.2.2.2.2.2.2.2.2.2.2.2) (g.1, k_log_done₉, k_log_undone₉, g.2.2.2) sw (k_status₉₉, k_thrown₉₉, mi.2.2.1, mi.2.2.2.1, mi.2.2.2.2.1, mi.2.2.2.2.2.1, k_undoMany₉₉, k_redoMany₉₉) mw ml (mb.1, k_at₉₉, mb.2.2.1, mb.2.2.2.1, mb.2.2.2.2) (mu.1, mu.2.1, mu.2.2.1, k_redoBarge₉₉, k_redoFrom₉₉, k_redoTo₉₉) mo := by
  obtain ⟨iS, iW, iB, iO⟩ := hB
  rcases iB with ⟨h0, h1, h9⟩ | ⟨X, hX, hc, hr, hg, hn⟩
  · obtain ⟨cw0, cr⟩ := c
    obtain ⟨m0, m1, mh, mr⟩ := mi
    replace h0 : cw0 = 0 := h0
    replace h1 : mh = 0 := h1
    subst h0
    subst h1
    exact ⟨_, _, _, _, _, _, _, _, _, _, _, _, _, _, (nb_BargeBasin_undo _ _ _ _ _ _ _ _), (nb_BargeBasinModel_undo _ _ _ _ _ _ _ _ _ _ _), rfl, iW, Or.inl ⟨rfl, rfl, h9⟩, iO⟩
  · obtain ⟨ans, st₉, ct₉, cp₉, ld₉, lu₉, um₉, rm₉, kat₉, rb₉, rf₉, rt₉, Q, e1, e2, q1, q2, q3, q4, q5⟩ := eq_undo hX.1 hX.2.1 hc hr hg o.2.1 mi.1 mi.2.1
    exact ⟨_, _, _, _, _, _, _, _, _, _, _, _, _, _, e1, e2, rfl, iW, Or.inr ⟨(X.1, Q), ⟨hX.1, q1, hX.2.2⟩, ch_mv hc q2 q3, rf_mv hr q4, q5, hn⟩, iO⟩
theorem pk_redo {o : qO} {ln : qL} {c : qC} {tr : qC} {g : qG} {sh : qQ} {sw : qF} {mi : q_mi} {mw : q_mw} {mp : q_mp} {ml : q_ml} {mb : q_mb} {mu : q_mu} {ms : q_ms} {mk : q_mk} {mo : q_mo} {mt : q_mt} (hB : lwB o ln c g sw mi mw ml mb mu mo)  : ∃ (r0 : Int32) (k_status₉ : Int32) (k_chart_taken₉ : Int64) (k_chart_place₉ : Nat → Int32) (k_log_done₉ : Int32) (k_log_undone₉ : Int32) (k_status₉₉ : Int32) (k_thrown₉₉ : Int32) (k_undoMany₉₉ : Int32) (k_redoMany₉₉ : Int32) (k_at₉₉ : Nat → Int32) (k_undoBarge₉₉ : Nat → Int32) (k_undoFrom₉₉ : Nat → Int32) (k_undoTo₉₉ : Nat → Int32), f_BargeBasin_redo o.2.1 c.1 c.2.2.2.2.1 c.2.2.2.2.2.2.1 c.2.2.2.2.2.2.2.2.2.2.2.2 g.1 g.2.1 g.2.2.1 g.2.2.2 = some (r0, k_status₉, k_chart_taken₉, k_chart_place₉, k_log_done₉, k_log_undone₉) ∧ f_BargeBasinModel_redo mi.1 mi.2.1 mi.2.2.1 mi.2.2.2.2.2.2.1 mi.2.2.2.2.2.2.2 mb.2.1 mu.1 mu.2.1 mu.2.2.1 mu.2.2.2.1 mu.2.2.2.2.1 mu.2.2.2.2.2 = some (r0, k_status₉₉, k_thrown₉₉, k_undoMany₉₉, k_redoMany₉₉, k_at₉₉, k_undoBarge₉₉, k_undoFrom₉₉, k_undoTo₉₉) ∧ lwB (o.1, k_status₉, o.2.2.1, o.2.2.2.1, o.2.2.2.2) ln (c.1, c.2.1, c.2.2.1, c.2.2.2.1, k_chart_taken₉, c.2.2.2.2.2.1, k_chart_place₉, c.2.2.2.2.2.2.2.1, c.2.2.2.2.2.2.2.2.1, c.2.2.2.2.2.2.2.2.2.1, c.2.2.2.2.2.2.2.2.2.2.1, c.2.2.2.2.2.2.2.2.2.2.2.1, c.2.2.2.2.2.2.2.2.2.2.2.2) (g.1, k_log_done₉, k_log_undone₉, g.2.2.2) sw (k_status₉₉, k_thrown₉₉, mi.2.2.1, mi.2.2.2.1, mi.2.2.2.2.1, mi.2.2.2.2.2.1, k_undoMany₉₉, k_redoMany₉₉) mw ml (mb.1, k_at₉₉, mb.2.2.1, mb.2.2.2.1, mb.2.2.2.2) (k_undoBarge₉₉, k_undoFrom₉₉, k_undoTo₉₉, mu.2.2.2.1, mu.2.2.2.2.1, mu.2.2.2.2.2) mo := by
  obtain ⟨iS, iW, iB, iO⟩ := hB
  rcases iB with ⟨h0, h1, h9⟩ | ⟨X, hX, hc, hr, hg, hn⟩
  · obtain ⟨cw0, cr⟩ := c
    obtain ⟨m0, m1, mh, mr⟩ := mi
    replace h0 : cw0 = 0 := h0
    replace h1 : mh = 0 := h1
    subst h0
    subst h1
    exact ⟨_, _, _, _, _, _, _, _, _, _, _, _, _, _, (nb_BargeBasin_redo _ _ _ _ _ _ _ _), (nb_BargeBasinModel_redo _ _ _ _ _ _ _ _ _ _ _), rfl, iW, Or.inl ⟨rfl, rfl, h9⟩, iO⟩
  · obtain ⟨ans, st₉, ct₉, cp₉, ld₉, lu₉, um₉, rm₉, kat₉, ub₉, uf₉, ut₉, Q, e1, e2, q1, q2, q3, q4, q5⟩ := eq_redo hX.1 hX.2.1 hc hr hg o.2.1 mi.1 mi.2.1
    exact ⟨_, _, _, _, _, _, _, _, _, _, _, _, _, _, e1, e2, rfl, iW, Or.inr ⟨(X.1, Q), ⟨hX.1, q1, hX.2.2⟩, ch_mv hc q2 q3, rf_mv hr q4, q5, hn⟩, iO⟩
theorem pk_lift {o : qO} {ln : qL} {c : qC} {tr : qC} {g : qG} {sh : qQ} {sw : qF} {mi : q_mi} {mw : q_mw} {mp : q_mp} {ml : q_ml} {mb : q_mb} {mu : q_mu} {ms : q_ms} {mk : q_mk} {mo : q_mo} {mt : q_mt} (hB : lwB o ln c g sw mi mw ml mb mu mo) (v1 : Int32) : ∃ (r0 : Int32) (k_status₉ : Int32) (k_chart_barges₉ : Int32) (k_chart_taken₉ : Int64) (k_chart_kind₉ : Nat → Int32) (k_chart_place₉ : Nat → Int32) (k_chart_length₉ : Nat → Int32) (k_chart_gate₉ : Nat → Int32) (k_chart_across₉ : Nat → Int32) (k_chart_wide₉ : Nat → Int32) (k_chart_high₉ : Nat → Int32) (k_chart_shape₉ : Nat → Int64) (k_log_done₉ : Int32) (k_log_undone₉ : Int32) (k_status₉₉ : Int32) (k_thrown₉₉ : Int32) (k_barges₉₉ : Int32) (k_undoMany₉₉ : Int32) (k_redoMany₉₉ : Int32) (k_kind₉₉ : Nat → Int32) (k_at₉₉ : Nat → Int32) (k_size₉₉ : Nat → Int32) (k_way₉₉ : Nat → Int32) (k_gate₉₉ : Nat → Int32), f_BargeBasin_lift v1 o.2.1 c.1 c.2.2.1 c.2.2.2.2.1 c.2.2.2.2.2.1 c.2.2.2.2.2.2.1 c.2.2.2.2.2.2.2.1 c.2.2.2.2.2.2.2.2.1 c.2.2.2.2.2.2.2.2.2.1 c.2.2.2.2.2.2.2.2.2.2.1 c.2.2.2.2.2.2.2.2.2.2.2.1 c.2.2.2.2.2.2.2.2.2.2.2.2 g.2.1 g.2.2.1 = some (r0, k_status₉, k_chart_barges₉, k_chart_taken₉, k_chart_kind₉, k_chart_place₉, k_chart_length₉, k_chart_gate₉, k_chart_across₉, k_chart_wide₉, k_chart_high₉, k_chart_shape₉, k_log_done₉, k_log_undone₉) ∧ f_BargeBasinModel_lift v1 mi.1 mi.2.1 mi.2.2.1 mi.2.2.2.2.2.1 mi.2.2.2.2.2.2.1 mi.2.2.2.2.2.2.2 mb.1 mb.2.1 mb.2.2.1 mb.2.2.2.1 mb.2.2.2.2 = some (r0, k_status₉₉, k_thrown₉₉, k_barges₉₉, k_undoMany₉₉, k_redoMany₉₉, k_kind₉₉, k_at₉₉, k_size₉₉, k_way₉₉, k_gate₉₉) ∧ lwB (o.1, k_status₉, o.2.2.1, o.2.2.2.1, o.2.2.2.2) ln (c.1, c.2.1, k_chart_barges₉, c.2.2.2.1, k_chart_taken₉, k_chart_kind₉, k_chart_place₉, k_chart_length₉, k_chart_gate₉, k_chart_across₉, k_chart_wide₉, k_chart_high₉, k_chart_shape₉) (g.1, k_log_done₉, k_log_undone₉, g.2.2.2) sw (k_status₉₉, k_thrown₉₉, mi.2.2.1, mi.2.2.2.1, mi.2.2.2.2.1, k_barges₉₉, k_undoMany₉₉, k_redoMany₉₉) mw ml (k_kind₉₉, k_at₉₉, k_size₉₉, k_way₉₉, k_gate₉₉) mu mo := by
  obtain ⟨iS, iW, iB, iO⟩ := hB
  rcases iB with ⟨h0, h1, h9⟩ | ⟨X, hX, hc, hr, hg, hn⟩
  · obtain ⟨cw0, cr⟩ := c
    obtain ⟨m0, m1, mh, mr⟩ := mi
    replace h0 : cw0 = 0 := h0
    replace h1 : mh = 0 := h1
    subst h0
    subst h1
    exact ⟨_, _, _, _, _, _, _, _, _, _, _, _, _, _, _, _, _, _, _, _, _, _, _, _, (nb_BargeBasin_lift _ _ _ _ _ _ _ _ _ _ _ _ _ _), (nb_BargeBasinModel_lift _ _ _ _ _ _ _ _ _ _ _), rfl, iW, Or.inl ⟨rfl, rfl, h9⟩, iO⟩
  · obtain ⟨ans, st₉, cn₉, ct₉, ck₉, cp₉, cl₉, cg₉, ca₉, cwd₉, chg₉, cs₉, ld₉, lu₉, kn₉, um₉, rm₉, kk₉, kat₉, ks₉, ky₉, kg₉, B₉, Q, e1, e2, qd, q1, q2, q3, q4, q5⟩ := eq_lift hX.1 hX.2.1 hc hr hg v1 o.2.1 mi.1 mi.2.1
    have hn₉ : lnR B₉ ln.1 ln.2.1 ln.2.2.1 ml.1 ml.2.1 ml.2.2.1 := by rcases qd with rfl | ⟨b, _, rfl⟩ <;> exact hn
    exact ⟨_, _, _, _, _, _, _, _, _, _, _, _, _, _, _, _, _, _, _, _, _, _, _, _, e1, e2, rfl, iW, Or.inr ⟨(B₉, Q), ⟨q1, q2, hn₉.2.2.1⟩, q3, q4, q5, hn₉⟩, iO⟩
theorem pk_gate {o : qO} {ln : qL} {c : qC} {tr : qC} {g : qG} {sh : qQ} {sw : qF} {mi : q_mi} {mw : q_mw} {mp : q_mp} {ml : q_ml} {mb : q_mb} {mu : q_mu} {ms : q_ms} {mk : q_mk} {mo : q_mo} {mt : q_mt} (hB : lwB o ln c g sw mi mw ml mb mu mo) (v1 : Int32) (v2 : Int32) (v3 : Int32) : ∃ (r0 : Int32) (k_status₉ : Int32) (k_chart_gate₉ : Nat → Int32) (k_log_done₉ : Int32) (k_log_undone₉ : Int32) (k_status₉₉ : Int32) (k_thrown₉₉ : Int32) (k_undoMany₉₉ : Int32) (k_redoMany₉₉ : Int32) (k_gate₉₉ : Nat → Int32), f_BargeBasin_gate v1 v2 v3 o.2.1 c.1 c.2.1 c.2.2.1 c.2.2.2.2.2.1 c.2.2.2.2.2.2.1 c.2.2.2.2.2.2.2.2.1 c.2.2.2.2.2.2.2.2.2.1 c.2.2.2.2.2.2.2.2.2.2.1 c.2.2.2.2.2.2.2.2.2.2.2.1 g.2.1 g.2.2.1 = some (r0, k_status₉, k_chart_gate₉, k_log_done₉, k_log_undone₉) ∧ f_BargeBasinModel_gate v1 v2 v3 mi.1 mi.2.1 mi.2.2.1 mi.2.2.2.1 mi.2.2.2.2.1 mi.2.2.2.2.2.1 mi.2.2.2.2.2.2.1 mi.2.2.2.2.2.2.2 mb.1 mb.2.1 mb.2.2.1 mb.2.2.2.1 mb.2.2.2.2 = some (r0, k_status₉₉, k_thrown₉₉, k_undoMany₉₉, k_redoMany₉₉, k_gate₉₉) ∧ lwB (o.1, k_status₉, o.2.2.1, o.2.2.2.1, o.2.2.2.2) ln (c.1, c.2.1, c.2.2.1, c.2.2.2.1, c.2.2.2.2.1, c.2.2.2.2.2.1, c.2.2.2.2.2.2.1, c.2.2.2.2.2.2.2.1, k_chart_gate₉, c.2.2.2.2.2.2.2.2.2.1, c.2.2.2.2.2.2.2.2.2.2.1, c.2.2.2.2.2.2.2.2.2.2.2.1, c.2.2.2.2.2.2.2.2.2.2.2.2) (g.1, k_log_done₉, k_log_undone₉, g.2.2.2) sw (k_status₉₉, k_thrown₉₉, mi.2.2.1, mi.2.2.2.1, mi.2.2.2.2.1, mi.2.2.2.2.2.1, k_undoMany₉₉, k_redoMany₉₉) mw ml (mb.1, mb.2.1, mb.2.2.1, mb.2.2.2.1, k_gate₉₉) mu mo := by
  obtain ⟨iS, iW, iB, iO⟩ := hB
  rcases iB with ⟨h0, h1, h9⟩ | ⟨X, hX, hc, hr, hg, hn⟩
  · obtain ⟨cw0, cr⟩ := c
    obtain ⟨m0, m1, mh, mr⟩ := mi
    replace h0 : cw0 = 0 := h0
    replace h1 : mh = 0 := h1
    subst h0
    subst h1
    exact ⟨_, _, _, _, _, _, _, _, _, _, (nb_BargeBasin_gate _ _ _ _ _ _ _ _ _ _ _ _ _ _), (nb_BargeBasinModel_gate _ _ _ _ _ _ _ _ _ _ _ _ _ _ _), rfl, iW, Or.inl ⟨rfl, rfl, h9⟩, iO⟩
  · obtain ⟨ans, st₉, cg₉, ld₉, lu₉, um₉, rm₉, kg₉, B₉, e1, e2, qd, q1, q2, q3, q4, q5⟩ := eq_gate hX.1 hX.2.1 hc hr hg v1 v2 v3 o.2.1 mi.1 mi.2.1
    have hn₉ : lnR B₉ ln.1 ln.2.1 ln.2.2.1 ml.1 ml.2.1 ml.2.2.1 := by rcases qd with rfl | ⟨b, x, y, _, _, _, _, rfl⟩ <;> exact hn
    exact ⟨_, _, _, _, _, _, _, _, _, _, e1, e2, rfl, iW, Or.inr ⟨(B₉, X.2), ⟨q1, q2, hn₉.2.2.1⟩, q3, q4, q5, hn₉⟩, iO⟩
theorem pk_barge {o : qO} {ln : qL} {c : qC} {tr : qC} {g : qG} {sh : qQ} {sw : qF} {mi : q_mi} {mw : q_mw} {mp : q_mp} {ml : q_ml} {mb : q_mb} {mu : q_mu} {ms : q_ms} {mk : q_mk} {mo : q_mo} {mt : q_mt} (hB : lwB o ln c g sw mi mw ml mb mu mo) (v1 : Int32) (v2 : Int32) (v3 : Int32) (v4 : Int32) (v5 : Bool) : ∃ (r0 : Int32) (k_status₉ : Int32) (k_chart_barges₉ : Int32) (k_chart_taken₉ : Int64) (k_chart_kind₉ : Nat → Int32) (k_chart_place₉ : Nat → Int32) (k_chart_length₉ : Nat → Int32) (k_chart_gate₉ : Nat → Int32) (k_chart_across₉ : Nat → Int32) (k_chart_wide₉ : Nat → Int32) (k_chart_high₉ : Nat → Int32) (k_chart_shape₉ : Nat → Int64) (k_log_done₉ : Int32) (k_log_undone₉ : Int32) (k_status₉₉ : Int32) (k_thrown₉₉ : Int32) (k_barges₉₉ : Int32) (k_undoMany₉₉ : Int32) (k_redoMany₉₉ : Int32) (k_kind₉₉ : Nat → Int32) (k_at₉₉ : Nat → Int32) (k_size₉₉ : Nat → Int32) (k_way₉₉ : Nat → Int32) (k_gate₉₉ : Nat → Int32) (k_who₉₉ : Nat → Int32) (k_here₉₉ : Nat → Int32), f_BargeBasin_barge v1 v2 v3 v4 (bI v5) o.2.1 c.1 c.2.1 c.2.2.1 c.2.2.2.1 c.2.2.2.2.1 c.2.2.2.2.2.1 c.2.2.2.2.2.2.1 c.2.2.2.2.2.2.2.1 c.2.2.2.2.2.2.2.2.1 c.2.2.2.2.2.2.2.2.2.1 c.2.2.2.2.2.2.2.2.2.2.1 c.2.2.2.2.2.2.2.2.2.2.2.1 c.2.2.2.2.2.2.2.2.2.2.2.2 g.2.1 g.2.2.1 = some (r0, k_status₉, k_chart_barges₉, k_chart_taken₉, k_chart_kind₉, k_chart_place₉, k_chart_length₉, k_chart_gate₉, k_chart_across₉, k_chart_wide₉, k_chart_high₉, k_chart_shape₉, k_log_done₉, k_log_undone₉) ∧ f_BargeBasinModel_barge v1 v2 v3 v4 (bI v5) mi.1 mi.2.1 mi.2.2.1 mi.2.2.2.1 mi.2.2.2.2.1 mi.2.2.2.2.2.1 mi.2.2.2.2.2.2.1 mi.2.2.2.2.2.2.2 ml.2.2.2 mb.1 mb.2.1 mb.2.2.1 mb.2.2.2.1 mb.2.2.2.2 mt.2.2.2.1 mt.2.2.2.2.1 = some (r0, k_status₉₉, k_thrown₉₉, k_barges₉₉, k_undoMany₉₉, k_redoMany₉₉, k_kind₉₉, k_at₉₉, k_size₉₉, k_way₉₉, k_gate₉₉, k_who₉₉, k_here₉₉) ∧ lwB (o.1, k_status₉, o.2.2.1, o.2.2.2.1, o.2.2.2.2) ln (c.1, c.2.1, k_chart_barges₉, c.2.2.2.1, k_chart_taken₉, k_chart_kind₉, k_chart_place₉, k_chart_length₉, k_chart_gate₉, k_chart_across₉, k_chart_wide₉, k_chart_high₉, k_chart_shape₉) (g.1, k_log_done₉, k_log_undone₉, g.2.2.2) sw (k_status₉₉, k_thrown₉₉, mi.2.2.1, mi.2.2.2.1, mi.2.2.2.2.1, k_barges₉₉, k_undoMany₉₉, k_redoMany₉₉) mw ml (k_kind₉₉, k_at₉₉, k_size₉₉, k_way₉₉, k_gate₉₉) mu mo := by
  obtain ⟨iS, iW, iB, iO⟩ := hB
  rcases iB with ⟨h0, h1, h9⟩ | ⟨X, hX, hc, hr, hg, hn⟩
  · obtain ⟨cw0, cr⟩ := c
    obtain ⟨m0, m1, mh, mr⟩ := mi
    replace h0 : cw0 = 0 := h0
    replace h1 : mh = 0 := h1
    subst h0
    subst h1
    exact ⟨_, _, _, _, _, _, _, _, _, _, _, _, _, _, _, _, _, _, _, _, _, _, _, _, _, _, (nb_BargeBasin_barge _ _ _ _ _ _ _ _ _ _ _ _ _ _ _ _ _ _ _ _), (nb_BargeBasinModel_barge _ _ _ _ _ _ _ _ _ _ _ _ _ _ _ _ _ _ _ _), rfl, iW, Or.inl ⟨rfl, rfl, h9⟩, iO⟩
  · obtain ⟨ans, st₉, cn₉, ct₉, ck₉, cp₉, cl₉, cg₉, ca₉, cwd₉, chg₉, cs₉, ld₉, lu₉, kn₉, um₉, rm₉, kk₉, kat₉, ks₉, ky₉, kg₉, kwho₉, khe₉, B₉, Q, e1, e2, qd, q1, q2, q3, q4, q5⟩ := eq_barge hX.1 hX.2.1 hc hr hg v1 v2 v3 v4 v5 o.2.1 mi.1 mi.2.1 mt.2.2.2.1 mt.2.2.2.2.1
    have hn₉ : lnR B₉ ln.1 ln.2.1 ln.2.2.1 ml.1 ml.2.1 ml.2.2.1 := by rcases qd with rfl | ⟨k, s, y, p, rfl, _⟩ <;> exact hn
    exact ⟨_, _, _, _, _, _, _, _, _, _, _, _, _, _, _, _, _, _, _, _, _, _, _, _, _, _, e1, e2, rfl, iW, Or.inr ⟨(B₉, Q), ⟨q1, q2, hn₉.2.2.1⟩, q3, q4, q5, hn₉⟩, iO⟩
theorem pk_tear {o : qO} {ln : qL} {c : qC} {tr : qC} {g : qG} {sh : qQ} {sw : qF} {mi : q_mi} {mw : q_mw} {mp : q_mp} {ml : q_ml} {mb : q_mb} {mu : q_mu} {ms : q_ms} {mk : q_mk} {mo : q_mo} {mt : q_mt} (hB : lwB o ln c g sw mi mw ml mb mu mo) (v1 : Int32) : ∃ (r0 : Int32) (k_status₉ : Int32) (k_lines_sort₉ : Nat → Int32) (k_chart_walls₉ : Int64) (k_log_done₉ : Int32) (k_log_undone₉ : Int32) (k_status₉₉ : Int32) (k_thrown₉₉ : Int32) (k_undoMany₉₉ : Int32) (k_redoMany₉₉ : Int32) (k_lineMany₉₉ : Nat → Int32) (k_wall₉₉ : Nat → Int32), f_BargeBasin_tear v1 o.2.1 ln.1 ln.2.1 ln.2.2.1 c.1 c.2.1 c.2.2.2.1 g.2.1 g.2.2.1 = some (r0, k_status₉, k_lines_sort₉, k_chart_walls₉, k_log_done₉, k_log_undone₉) ∧ f_BargeBasinModel_tear v1 mi.1 mi.2.1 mi.2.2.1 mi.2.2.2.1 mi.2.2.2.2.1 mi.2.2.2.2.2.2.1 mi.2.2.2.2.2.2.2 ml.2.1 ml.2.2.1 ml.2.2.2 = some (r0, k_status₉₉, k_thrown₉₉, k_undoMany₉₉, k_redoMany₉₉, k_lineMany₉₉, k_wall₉₉) ∧ lwB (o.1, k_status₉, o.2.2.1, o.2.2.2.1, o.2.2.2.2) (k_lines_sort₉, ln.2.1, ln.2.2.1, ln.2.2.2) (c.1, c.2.1, c.2.2.1, k_chart_walls₉, c.2.2.2.2.1, c.2.2.2.2.2.1, c.2.2.2.2.2.2.1, c.2.2.2.2.2.2.2.1, c.2.2.2.2.2.2.2.2.1, c.2.2.2.2.2.2.2.2.2.1, c.2.2.2.2.2.2.2.2.2.2.1, c.2.2.2.2.2.2.2.2.2.2.2.1, c.2.2.2.2.2.2.2.2.2.2.2.2) (g.1, k_log_done₉, k_log_undone₉, g.2.2.2) sw (k_status₉₉, k_thrown₉₉, mi.2.2.1, mi.2.2.2.1, mi.2.2.2.2.1, mi.2.2.2.2.2.1, k_undoMany₉₉, k_redoMany₉₉) mw (ml.1, k_lineMany₉₉, ml.2.2.1, k_wall₉₉) mb mu mo := by
  obtain ⟨iS, iW, iB, iO⟩ := hB
  rcases iB with ⟨h0, h1, h9⟩ | ⟨X, hX, hc, hr, hg, hn⟩
  · obtain ⟨cw0, cr⟩ := c
    obtain ⟨m0, m1, mh, mr⟩ := mi
    replace h0 : cw0 = 0 := h0
    replace h1 : mh = 0 := h1
    subst h0
    subst h1
    exact ⟨_, _, _, _, _, _, _, _, _, _, _, _, (nb_BargeBasin_tear _ _ _ _ _ _ _ _ _), (nb_BargeBasinModel_tear _ _ _ _ _ _ _ _ _ _), rfl, iW, Or.inl ⟨rfl, rfl, h9⟩, iO⟩
  · obtain ⟨ans, st₉, csort₉, cwl₉, ld₉, lu₉, um₉, rm₉, lmany₉, kwl₉, B₉, e1, e2, qd, q1, q2, q3, q4, q5, q6⟩ := eq_tear hX.1 hX.2.1 hc hr hg hn v1 o.2.1 mi.1 mi.2.1
    exact ⟨_, _, _, _, _, _, _, _, _, _, _, _, e1, e2, rfl, iW, Or.inr ⟨(B₉, X.2), ⟨q1, q2, q6.2.2.1⟩, q3, q4, q5, q6⟩, iO⟩
theorem pk_set {o : qO} {ln : qL} {c : qC} {tr : qC} {g : qG} {sh : qQ} {sw : qF} {mi : q_mi} {mw : q_mw} {mp : q_mp} {ml : q_ml} {mb : q_mb} {mu : q_mu} {ms : q_ms} {mk : q_mk} {mo : q_mo} {mt : q_mt} (hB : lwB o ln c g sw mi mw ml mb mu mo) (v1 : Int32) (v2 : Int32) (v3 : Int32) : ∃ (r0 : Int32) (k_status₉ : Int32) (k_lines_numbers₉ : Nat → Int32) (k_chart_walls₉ : Int64) (k_log_done₉ : Int32) (k_log_undone₉ : Int32) (k_status₉₉ : Int32) (k_thrown₉₉ : Int32) (k_undoMany₉₉ : Int32) (k_redoMany₉₉ : Int32) (k_numbers₉₉ : Nat → Int32) (k_wall₉₉ : Nat → Int32) (k_who₉₉ : Nat → Int32) (k_here₉₉ : Nat → Int32) (k_oldNumbers₉₉ : Nat → Int32), f_BargeBasin_set v1 v2 v3 o.2.1 ln.1 ln.2.1 ln.2.2.1 c.1 c.2.1 c.2.2.2.1 c.2.2.2.2.1 g.2.1 g.2.2.1 = some (r0, k_status₉, k_lines_numbers₉, k_chart_walls₉, k_log_done₉, k_log_undone₉) ∧ f_BargeBasinModel_set v1 v2 v3 mi.1 mi.2.1 mi.2.2.1 mi.2.2.2.1 mi.2.2.2.2.1 mi.2.2.2.2.2.1 mi.2.2.2.2.2.2.1 mi.2.2.2.2.2.2.2 ml.1 ml.2.1 ml.2.2.1 ml.2.2.2 mb.1 mb.2.1 mb.2.2.1 mb.2.2.2.1 mt.2.2.2.1 mt.2.2.2.2.1 mt.2.2.2.2.2.2.1 = some (r0, k_status₉₉, k_thrown₉₉, k_undoMany₉₉, k_redoMany₉₉, k_numbers₉₉, k_wall₉₉, k_who₉₉, k_here₉₉, k_oldNumbers₉₉) ∧ lwB (o.1, k_status₉, o.2.2.1, o.2.2.2.1, o.2.2.2.2) (ln.1, ln.2.1, k_lines_numbers₉, ln.2.2.2) (c.1, c.2.1, c.2.2.1, k_chart_walls₉, c.2.2.2.2.1, c.2.2.2.2.2.1, c.2.2.2.2.2.2.1, c.2.2.2.2.2.2.2.1, c.2.2.2.2.2.2.2.2.1, c.2.2.2.2.2.2.2.2.2.1, c.2.2.2.2.2.2.2.2.2.2.1, c.2.2.2.2.2.2.2.2.2.2.2.1, c.2.2.2.2.2.2.2.2.2.2.2.2) (g.1, k_log_done₉, k_log_undone₉, g.2.2.2) sw (k_status₉₉, k_thrown₉₉, mi.2.2.1, mi.2.2.2.1, mi.2.2.2.2.1, mi.2.2.2.2.2.1, k_undoMany₉₉, k_redoMany₉₉) mw (ml.1, ml.2.1, k_numbers₉₉, k_wall₉₉) mb mu mo := by
  obtain ⟨iS, iW, iB, iO⟩ := hB
  rcases iB with ⟨h0, h1, h9⟩ | ⟨X, hX, hc, hr, hg, hn⟩
  · obtain ⟨cw0, cr⟩ := c
    obtain ⟨m0, m1, mh, mr⟩ := mi
    replace h0 : cw0 = 0 := h0
    replace h1 : mh = 0 := h1
    subst h0
    subst h1
    exact ⟨_, _, _, _, _, _, _, _, _, _, _, _, _, _, _, (nb_BargeBasin_set _ _ _ _ _ _ _ _ _ _ _ _), (nb_BargeBasinModel_set _ _ _ _ _ _ _ _ _ _ _ _ _ _ _ _ _ _ _ _ _), rfl, iW, Or.inl ⟨rfl, rfl, h9⟩, iO⟩
  · obtain ⟨ans, st₉, cnum₉, cwl₉, ld₉, lu₉, um₉, rm₉, lnum₉, kwl₉, kwho₉, khe₉, old₉, B₉, e1, e2, qd, q1, q2, q3, q4, q5, q6⟩ := eq_set hX.1 hX.2.1 hc hr hg hn v1 v2 v3 o.2.1 mi.1 mi.2.1 mt.2.2.2.1 mt.2.2.2.2.1 mt.2.2.2.2.2.2.1
    exact ⟨_, _, _, _, _, _, _, _, _, _, _, _, _, _, _, e1, e2, rfl, iW, Or.inr ⟨(B₉, X.2), ⟨q1, q2, q6.2.2.1⟩, q3, q4, q5, q6⟩, iO⟩
theorem pk_line {o : qO} {ln : qL} {c : qC} {tr : qC} {g : qG} {sh : qQ} {sw : qF} {mi : q_mi} {mw : q_mw} {mp : q_mp} {ml : q_ml} {mb : q_mb} {mu : q_mu} {ms : q_ms} {mk : q_mk} {mo : q_mo} {mt : q_mt} (hB : lwB o ln c g sw mi mw ml mb mu mo) (v1 : Int32) (v2 : Int32) (v3 : Int32) : ∃ (r0 : Int32) (k_status₉ : Int32) (k_lines_sort₉ : Nat → Int32) (k_lines_size₉ : Nat → Int32) (k_lines_numbers₉ : Nat → Int32) (k_chart_walls₉ : Int64) (k_log_done₉ : Int32) (k_log_undone₉ : Int32) (k_status₉₉ : Int32) (k_thrown₉₉ : Int32) (k_undoMany₉₉ : Int32) (k_redoMany₉₉ : Int32) (k_lineSort₉₉ : Nat → Int32) (k_lineMany₉₉ : Nat → Int32) (k_numbers₉₉ : Nat → Int32) (k_wall₉₉ : Nat → Int32) (k_who₉₉ : Nat → Int32) (k_here₉₉ : Nat → Int32) (k_oldNumbers₉₉ : Nat → Int32), f_BargeBasin_line v1 v2 v3 o.2.1 ln.1 ln.2.1 ln.2.2.1 c.1 c.2.1 c.2.2.2.1 c.2.2.2.2.1 g.2.1 g.2.2.1 = some (r0, k_status₉, k_lines_sort₉, k_lines_size₉, k_lines_numbers₉, k_chart_walls₉, k_log_done₉, k_log_undone₉) ∧ f_BargeBasinModel_line v1 v2 v3 mi.1 mi.2.1 mi.2.2.1 mi.2.2.2.1 mi.2.2.2.2.1 mi.2.2.2.2.2.1 mi.2.2.2.2.2.2.1 mi.2.2.2.2.2.2.2 ml.1 ml.2.1 ml.2.2.1 ml.2.2.2 mb.1 mb.2.1 mb.2.2.1 mb.2.2.2.1 mt.2.2.2.1 mt.2.2.2.2.1 mt.2.2.2.2.2.2.1 = some (r0, k_status₉₉, k_thrown₉₉, k_undoMany₉₉, k_redoMany₉₉, k_lineSort₉₉, k_lineMany₉₉, k_numbers₉₉, k_wall₉₉, k_who₉₉, k_here₉₉, k_oldNumbers₉₉) ∧ lwB (o.1, k_status₉, o.2.2.1, o.2.2.2.1, o.2.2.2.2) (k_lines_sort₉, k_lines_size₉, k_lines_numbers₉, ln.2.2.2) (c.1, c.2.1, c.2.2.1, k_chart_walls₉, c.2.2.2.2.1, c.2.2.2.2.2.1, c.2.2.2.2.2.2.1, c.2.2.2.2.2.2.2.1, c.2.2.2.2.2.2.2.2.1, c.2.2.2.2.2.2.2.2.2.1, c.2.2.2.2.2.2.2.2.2.2.1, c.2.2.2.2.2.2.2.2.2.2.2.1, c.2.2.2.2.2.2.2.2.2.2.2.2) (g.1, k_log_done₉, k_log_undone₉, g.2.2.2) sw (k_status₉₉, k_thrown₉₉, mi.2.2.1, mi.2.2.2.1, mi.2.2.2.2.1, mi.2.2.2.2.2.1, k_undoMany₉₉, k_redoMany₉₉) mw (k_lineSort₉₉, k_lineMany₉₉, k_numbers₉₉, k_wall₉₉) mb mu mo := by
  obtain ⟨iS, iW, iB, iO⟩ := hB
  rcases iB with ⟨h0, h1, h9⟩ | ⟨X, hX, hc, hr, hg, hn⟩
  · obtain ⟨cw0, cr⟩ := c
    obtain ⟨m0, m1, mh, mr⟩ := mi
    replace h0 : cw0 = 0 := h0
    replace h1 : mh = 0 := h1
    subst h0
    subst h1
    exact ⟨_, _, _, _, _, _, _, _, _, _, _, _, _, _, _, _, _, _, _, (nb_BargeBasin_line _ _ _ _ _ _ _ _ _ _ _ _), (nb_BargeBasinModel_line _ _ _ _ _ _ _ _ _ _ _ _ _ _ _ _ _ _ _ _ _), rfl, iW, Or.inl ⟨rfl, rfl, h9⟩, iO⟩
  · obtain ⟨ans, st₉, csort₉, csize₉, cnum₉, cwl₉, ld₉, lu₉, um₉, rm₉, lsort₉, lmany₉, lnum₉, kwl₉, kwho₉, khe₉, old₉, B₉, e1, e2, qd, q1, q2, q3, q4, q5, q6⟩ := eq_line hX.1 hX.2.1 hc hr hg hn v1 v2 v3 o.2.1 mi.1 mi.2.1 mt.2.2.2.1 mt.2.2.2.2.1 mt.2.2.2.2.2.2.1
    exact ⟨_, _, _, _, _, _, _, _, _, _, _, _, _, _, _, _, _, _, _, e1, e2, rfl, iW, Or.inr ⟨(B₉, X.2), ⟨q1, q2, q6.2.2.1⟩, q3, q4, q5, q6⟩, iO⟩
theorem pk_carry {o : qO} {ln : qL} {c : qC} {tr : qC} {g : qG} {sh : qQ} {sw : qF} {mi : q_mi} {mw : q_mw} {mp : q_mp} {ml : q_ml} {mb : q_mb} {mu : q_mu} {ms : q_ms} {mk : q_mk} {mo : q_mo} {mt : q_mt} (hB : lwB o ln c g sw mi mw ml mb mu mo) (v1 : Int32) (v2 : Int32) (v3 : Int32) (v4 : Int32) (v5 : Int32) : ∃ (r0 : Int32) (k_status₉ : Int32) (k_lines_numbers₉ : Nat → Int32) (k_lines_carried₉ : Nat → Int32) (k_chart_walls₉ : Int64) (k_log_done₉ : Int32) (k_log_undone₉ : Int32) (k_status₉₉ : Int32) (k_thrown₉₉ : Int32) (k_undoMany₉₉ : Int32) (k_redoMany₉₉ : Int32) (k_numbers₉₉ : Nat → Int32) (k_wall₉₉ : Nat → Int32) (k_who₉₉ : Nat → Int32) (k_here₉₉ : Nat → Int32) (k_oldNumbers₉₉ : Nat → Int32), f_BargeBasin_carry v1 v2 v3 v4 v5 o.2.1 ln.1 ln.2.1 ln.2.2.1 ln.2.2.2 c.1 c.2.1 c.2.2.2.1 c.2.2.2.2.1 g.2.1 g.2.2.1 = some (r0, k_status₉, k_lines_numbers₉, k_lines_carried₉, k_chart_walls₉, k_log_done₉, k_log_undone₉) ∧ f_BargeBasinModel_carry v1 v2 v3 v4 v5 mi.1 mi.2.1 mi.2.2.1 mi.2.2.2.1 mi.2.2.2.2.1 mi.2.2.2.2.2.1 mi.2.2.2.2.2.2.1 mi.2.2.2.2.2.2.2 ml.1 ml.2.1 ml.2.2.1 ml.2.2.2 mb.1 mb.2.1 mb.2.2.1 mb.2.2.2.1 mt.2.2.2.1 mt.2.2.2.2.1 mt.2.2.2.2.2.2.1 = some (r0, k_status₉₉, k_thrown₉₉, k_undoMany₉₉, k_redoMany₉₉, k_numbers₉₉, k_wall₉₉, k_who₉₉, k_here₉₉, k_oldNumbers₉₉) ∧ lwB (o.1, k_status₉, o.2.2.1, o.2.2.2.1, o.2.2.2.2) (ln.1, ln.2.1, k_lines_numbers₉, k_lines_carried₉) (c.1, c.2.1, c.2.2.1, k_chart_walls₉, c.2.2.2.2.1, c.2.2.2.2.2.1, c.2.2.2.2.2.2.1, c.2.2.2.2.2.2.2.1, c.2.2.2.2.2.2.2.2.1, c.2.2.2.2.2.2.2.2.2.1, c.2.2.2.2.2.2.2.2.2.2.1, c.2.2.2.2.2.2.2.2.2.2.2.1, c.2.2.2.2.2.2.2.2.2.2.2.2) (g.1, k_log_done₉, k_log_undone₉, g.2.2.2) sw (k_status₉₉, k_thrown₉₉, mi.2.2.1, mi.2.2.2.1, mi.2.2.2.2.1, mi.2.2.2.2.2.1, k_undoMany₉₉, k_redoMany₉₉) mw (ml.1, ml.2.1, k_numbers₉₉, k_wall₉₉) mb mu mo := by
  obtain ⟨iS, iW, iB, iO⟩ := hB
  rcases iB with ⟨h0, h1, h9⟩ | ⟨X, hX, hc, hr, hg, hn⟩
  · obtain ⟨cw0, cr⟩ := c
    obtain ⟨m0, m1, mh, mr⟩ := mi
    replace h0 : cw0 = 0 := h0
    replace h1 : mh = 0 := h1
    subst h0
    subst h1
    exact ⟨_, _, _, _, _, _, _, _, _, _, _, _, _, _, _, _, (nb_BargeBasin_carry _ _ _ _ _ _ _ _ _ _ _ _ _ _ _), (nb_BargeBasinModel_carry _ _ _ _ _ _ _ _ _ _ _ _ _ _ _ _ _ _ _ _ _ _ _), rfl, iW, Or.inl ⟨rfl, rfl, h9⟩, iO⟩
  · obtain ⟨ans, st₉, cnum₉, car₉, cwl₉, ld₉, lu₉, um₉, rm₉, lnum₉, kwl₉, kwho₉, khe₉, old₉, B₉, e1, e2, qd, q1, q2, q3, q4, q5, q6⟩ := eq_carry hX.1 hX.2.1 hc hr hg hn v1 v2 v3 v4 v5 o.2.1 mi.1 mi.2.1 ln.2.2.2 mt.2.2.2.1 mt.2.2.2.2.1 mt.2.2.2.2.2.2.1
    exact ⟨_, _, _, _, _, _, _, _, _, _, _, _, _, _, _, _, e1, e2, rfl, iW, Or.inr ⟨(B₉, X.2), ⟨q1, q2, q6.2.2.1⟩, q3, q4, q5, q6⟩, iO⟩
theorem pk_turn {o : qO} {ln : qL} {c : qC} {tr : qC} {g : qG} {sh : qQ} {sw : qF} {mi : q_mi} {mw : q_mw} {mp : q_mp} {ml : q_ml} {mb : q_mb} {mu : q_mu} {ms : q_ms} {mk : q_mk} {mo : q_mo} {mt : q_mt} (hB : lwB o ln c g sw mi mw ml mb mu mo) (v1 : Bool) : ∃ (r0 : Int32) (k_status₉ : Int32) (k_lines_sort₉ : Nat → Int32) (k_lines_size₉ : Nat → Int32) (k_lines_numbers₉ : Nat → Int32) (k_chart_width₉ : Int32) (k_chart_height₉ : Int32) (k_chart_walls₉ : Int64) (k_chart_taken₉ : Int64) (k_chart_place₉ : Nat → Int32) (k_chart_gate₉ : Nat → Int32) (k_chart_across₉ : Nat → Int32) (k_chart_wide₉ : Nat → Int32) (k_chart_high₉ : Nat → Int32) (k_chart_shape₉ : Nat → Int64) (k_log_done₉ : Int32) (k_log_undone₉ : Int32) (k_status₉₉ : Int32) (k_thrown₉₉ : Int32) (k_width₉₉ : Int32) (k_height₉₉ : Int32) (k_undoMany₉₉ : Int32) (k_redoMany₉₉ : Int32) (k_lineSort₉₉ : Nat → Int32) (k_lineMany₉₉ : Nat → Int32) (k_numbers₉₉ : Nat → Int32) (k_wall₉₉ : Nat → Int32) (k_at₉₉ : Nat → Int32) (k_way₉₉ : Nat → Int32) (k_gate₉₉ : Nat → Int32) (k_newWall₉₉ : Nat → Int32), f_BargeBasin_turn (bI v1) o.2.1 ln.1 ln.2.1 ln.2.2.1 c.1 c.2.1 c.2.2.1 c.2.2.2.1 c.2.2.2.2.1 c.2.2.2.2.2.1 c.2.2.2.2.2.2.1 c.2.2.2.2.2.2.2.1 c.2.2.2.2.2.2.2.2.1 c.2.2.2.2.2.2.2.2.2.1 c.2.2.2.2.2.2.2.2.2.2.1 c.2.2.2.2.2.2.2.2.2.2.2.1 c.2.2.2.2.2.2.2.2.2.2.2.2 g.2.1 g.2.2.1 = some (r0, k_status₉, k_lines_sort₉, k_lines_size₉, k_lines_numbers₉, k_chart_width₉, k_chart_height₉, k_chart_walls₉, k_chart_taken₉, k_chart_place₉, k_chart_gate₉, k_chart_across₉, k_chart_wide₉, k_chart_high₉, k_chart_shape₉, k_log_done₉, k_log_undone₉) ∧ f_BargeBasinModel_turn (bI v1) mi.1 mi.2.1 mi.2.2.1 mi.2.2.2.1 mi.2.2.2.2.1 mi.2.2.2.2.2.1 mi.2.2.2.2.2.2.1 mi.2.2.2.2.2.2.2 ml.1 ml.2.1 ml.2.2.1 ml.2.2.2 mb.1 mb.2.1 mb.2.2.1 mb.2.2.2.1 mb.2.2.2.2 mt.2.2.2.2.2.2.2.1 = some (r0, k_status₉₉, k_thrown₉₉, k_width₉₉, k_height₉₉, k_undoMany₉₉, k_redoMany₉₉, k_lineSort₉₉, k_lineMany₉₉, k_numbers₉₉, k_wall₉₉, k_at₉₉, k_way₉₉, k_gate₉₉, k_newWall₉₉) ∧ lwB (o.1, k_status₉, o.2.2.1, o.2.2.2.1, o.2.2.2.2) (k_lines_sort₉, k_lines_size₉, k_lines_numbers₉, ln.2.2.2) (k_chart_width₉, k_chart_height₉, c.2.2.1, k_chart_walls₉, k_chart_taken₉, c.2.2.2.2.2.1, k_chart_place₉, c.2.2.2.2.2.2.2.1, k_chart_gate₉, k_chart_across₉, k_chart_wide₉, k_chart_high₉, k_chart_shape₉) (g.1, k_log_done₉, k_log_undone₉, g.2.2.2) sw (k_status₉₉, k_thrown₉₉, mi.2.2.1, k_width₉₉, k_height₉₉, mi.2.2.2.2.2.1, k_undoMany₉₉, k_redoMany₉₉) mw (k_lineSort₉₉, k_lineMany₉₉, k_numbers₉₉, k_wall₉₉) (mb.1, k_at₉₉, mb.2.2.1, k_way₉₉, k_gate₉₉) mu mo := by
  obtain ⟨iS, iW, iB, iO⟩ := hB
  rcases iB with ⟨h0, h1, h9⟩ | ⟨X, hX, hc, hr, hg, hn⟩
  · obtain ⟨cw0, cr⟩ := c
    obtain ⟨m0, m1, mh, mr⟩ := mi
    replace h0 : cw0 = 0 := h0
    replace h1 : mh = 0 := h1
    subst h0
    subst h1
    exact ⟨_, _, _, _, _, _, _, _, _, _, _, _, _, _, _, _, _, _, _, _, _, _, _, _, _, _, _, _, _, _, _, (nb_BargeBasin_turn _ _ _ _ _ _ _ _ _ _ _ _ _ _ _ _ _ _ _), (nb_BargeBasinModel_turn _ _ _ _ _ _ _ _ _ _ _ _ _ _ _ _ _ _), rfl, iW, Or.inl ⟨rfl, rfl, h9⟩, iO⟩
  · obtain ⟨csort₉, csize₉, cnum₉, cw₉, chh₉, cwl₉, ct₉, cp₉, cg₉, ca₉, cwd₉, chg₉, cs₉, kw₉, kh₉, lsort₉, lmany₉, lnum₉, kwl₉, kat₉, ky₉, kg₉, nw₉, e1, e2, q1, q2, q3, q4, q5, q6⟩ := eq_turn hX.1 hX.2.1 hc hr hg hn v1 o.2.1 mi.1 mi.2.1 mt.2.2.2.2.2.2.2.1
    exact ⟨_, _, _, _, _, _, _, _, _, _, _, _, _, _, _, _, _, _, _, _, _, _, _, _, _, _, _, _, _, _, _, e1, e2, rfl, iW, Or.inr ⟨(tuB v1 X.1, tuP v1 X.1 X.2), ⟨q1, q2, q6.2.2.1⟩, q3, q4, q5, q6⟩, iO⟩
theorem pk_make {o : qO} {ln : qL} {c : qC} {tr : qC} {g : qG} {sh : qQ} {sw : qF} {mi : q_mi} {mw : q_mw} {mp : q_mp} {ml : q_ml} {mb : q_mb} {mu : q_mu} {ms : q_ms} {mk : q_mk} {mo : q_mo} {mt : q_mt} (hB : lwB o ln c g sw mi mw ml mb mu mo) (v1 : Int32) (v2 : Int32) : ∃ (r0 : Int32) (k_status₉ : Int32) (k_chart_barges₉ : Int32) (k_chart_taken₉ : Int64) (k_chart_kind₉ : Nat → Int32) (k_chart_place₉ : Nat → Int32) (k_chart_length₉ : Nat → Int32) (k_chart_gate₉ : Nat → Int32) (k_chart_across₉ : Nat → Int32) (k_chart_wide₉ : Nat → Int32) (k_chart_high₉ : Nat → Int32) (k_chart_shape₉ : Nat → Int64) (k_log_done₉ : Int32) (k_log_undone₉ : Int32) (k_status₉₉ : Int32) (k_thrown₉₉ : Int32) (k_barges₉₉ : Int32) (k_undoMany₉₉ : Int32) (k_redoMany₉₉ : Int32) (k_seed₉₉ : Int32) (k_kind₉₉ : Nat → Int32) (k_at₉₉ : Nat → Int32) (k_size₉₉ : Nat → Int32) (k_way₉₉ : Nat → Int32) (k_gate₉₉ : Nat → Int32) (k_who₉₉ : Nat → Int32) (k_here₉₉ : Nat → Int32), f_BargeBasin_make v1 v2 o.2.1 c.1 c.2.1 c.2.2.1 c.2.2.2.1 c.2.2.2.2.1 c.2.2.2.2.2.1 c.2.2.2.2.2.2.1 c.2.2.2.2.2.2.2.1 c.2.2.2.2.2.2.2.2.1 c.2.2.2.2.2.2.2.2.2.1 c.2.2.2.2.2.2.2.2.2.2.1 c.2.2.2.2.2.2.2.2.2.2.2.1 c.2.2.2.2.2.2.2.2.2.2.2.2 g.2.1 g.2.2.1 = some (r0, k_status₉, k_chart_barges₉, k_chart_taken₉, k_chart_kind₉, k_chart_place₉, k_chart_length₉, k_chart_gate₉, k_chart_across₉, k_chart_wide₉, k_chart_high₉, k_chart_shape₉, k_log_done₉, k_log_undone₉) ∧ f_BargeBasinModel_make v1 v2 mi.1 mi.2.1 mi.2.2.1 mi.2.2.2.1 mi.2.2.2.2.1 mi.2.2.2.2.2.1 mi.2.2.2.2.2.2.1 mi.2.2.2.2.2.2.2 mt.1 ml.2.2.2 mb.1 mb.2.1 mb.2.2.1 mb.2.2.2.1 mb.2.2.2.2 mt.2.2.2.1 mt.2.2.2.2.1 = some (r0, k_status₉₉, k_thrown₉₉, k_barges₉₉, k_undoMany₉₉, k_redoMany₉₉, k_seed₉₉, k_kind₉₉, k_at₉₉, k_size₉₉, k_way₉₉, k_gate₉₉, k_who₉₉, k_here₉₉) ∧ lwB (o.1, k_status₉, o.2.2.1, o.2.2.2.1, o.2.2.2.2) ln (c.1, c.2.1, k_chart_barges₉, c.2.2.2.1, k_chart_taken₉, k_chart_kind₉, k_chart_place₉, k_chart_length₉, k_chart_gate₉, k_chart_across₉, k_chart_wide₉, k_chart_high₉, k_chart_shape₉) (g.1, k_log_done₉, k_log_undone₉, g.2.2.2) sw (k_status₉₉, k_thrown₉₉, mi.2.2.1, mi.2.2.2.1, mi.2.2.2.2.1, k_barges₉₉, k_undoMany₉₉, k_redoMany₉₉) mw ml (k_kind₉₉, k_at₉₉, k_size₉₉, k_way₉₉, k_gate₉₉) mu mo := by
  obtain ⟨iS, iW, iB, iO⟩ := hB
  rcases iB with ⟨h0, h1, h9⟩ | ⟨X, hX, hc, hr, hg, hn⟩
  · obtain ⟨cw0, cr⟩ := c
    obtain ⟨m0, m1, mh, mr⟩ := mi
    replace h0 : cw0 = 0 := h0
    replace h1 : mh = 0 := h1
    subst h0
    subst h1
    exact ⟨_, _, _, _, _, _, _, _, _, _, _, _, _, _, _, _, _, _, _, _, _, _, _, _, _, _, _, (nb_BargeBasin_make _ _ _ _ _ _ _ _ _ _ _ _ _ _ _ _ _), (nb_BargeBasinModel_make _ _ _ _ _ _ _ _ _ _ _ _ _ _ _ _ _ _), rfl, iW, Or.inl ⟨rfl, rfl, h9⟩, iO⟩
  · obtain ⟨ans, st₉, cn₉, ct₉, ck₉, cp₉, cl₉, cg₉, ca₉, cwd₉, chg₉, cs₉, ld₉, lu₉, kn₉, um₉, rm₉, sd₉, kk₉, kat₉, ks₉, ky₉, kg₉, kwho₉, khe₉, B₉, Q, e1, e2, qs, q1, q2, q3, q4, q5⟩ := eq_make hX.1 hX.2.1 hc hr hg v1 v2 o.2.1 mi.1 mi.2.1 mt.1 mt.2.2.2.1 mt.2.2.2.2.1
    have hn₉ : lnR B₉ ln.1 ln.2.1 ln.2.2.1 ml.1 ml.2.1 ml.2.2.1 := ln_sam qs hn
    exact ⟨_, _, _, _, _, _, _, _, _, _, _, _, _, _, _, _, _, _, _, _, _, _, _, _, _, _, _, e1, e2, rfl, iW, Or.inr ⟨(B₉, Q), ⟨q1, q2, hn₉.2.2.1⟩, q3, q4, q5, hn₉⟩, iO⟩
theorem pk_show {o : qO} {ln : qL} {c : qC} {tr : qC} {g : qG} {sh : qQ} {sw : qF} {mi : q_mi} {mw : q_mw} {mp : q_mp} {ml : q_ml} {mb : q_mb} {mu : q_mu} {ms : q_ms} {mk : q_mk} {mo : q_mo} {mt : q_mt} (hB : lwB o ln c g sw mi mw ml mb mu mo) (v1 : Int32) : ∃ (r0 : Int32) (k_shownCount₉ : Int32) (k_status₉ : Int32) (k_shown₉ : Nat → Int32) (k_status₉₉ : Int32) (k_thrown₉₉ : Int32) (k_outs₉₉ : Int32) (k_who₉₉ : Nat → Int32) (k_here₉₉ : Nat → Int32) (k_out₉₉ : Nat → Int32), f_BargeBasin_show v1 o.1 o.2.1 c.1 c.2.1 c.2.2.1 c.2.2.2.1 c.2.2.2.2.2.1 c.2.2.2.2.2.2.1 c.2.2.2.2.2.2.2.2.2.2.2.2 sw = some (r0, k_shownCount₉, k_status₉, k_shown₉) ∧ f_BargeBasinModel_show v1 mi.1 mi.2.1 mi.2.2.1 mi.2.2.2.1 mi.2.2.2.2.1 mi.2.2.2.2.2.1 mo.1 ml.2.2.2 mb.1 mb.2.1 mb.2.2.1 mb.2.2.2.1 mt.2.2.2.1 mt.2.2.2.2.1 mo.2 = some (r0, k_status₉₉, k_thrown₉₉, k_outs₉₉, k_who₉₉, k_here₉₉, k_out₉₉) ∧ lwB (k_shownCount₉, k_status₉, o.2.2.1, o.2.2.2.1, o.2.2.2.2) ln c g k_shown₉ (k_status₉₉, k_thrown₉₉, mi.2.2.1, mi.2.2.2.1, mi.2.2.2.2.1, mi.2.2.2.2.2.1, mi.2.2.2.2.2.2.1, mi.2.2.2.2.2.2.2) mw ml mb mu (k_outs₉₉, k_out₉₉) := by
  obtain ⟨iS, iW, iB, iO⟩ := hB
  rcases iB with ⟨h0, h1, h9⟩ | ⟨X, hX, hc, hr, hg, hn⟩
  · obtain ⟨cw0, cr⟩ := c
    obtain ⟨m0, m1, mh, mr⟩ := mi
    replace h0 : cw0 = 0 := h0
    replace h1 : mh = 0 := h1
    subst h0
    subst h1
    exact ⟨_, _, _, _, _, _, _, _, _, _, (nb_BargeBasin_show _ _ _ _ _ _ _ _ _ _), (nb_BargeBasinModel_show _ _ _ _ _ _ _ _ _ _ _ _ _ _ _), rfl, iW, Or.inl ⟨rfl, rfl, h9⟩, iO⟩
  · obtain ⟨ans, st₉, cnt₉, outs₉, sh₉, out₉, kwho₉, khe₉, e1, e2, qo⟩ := eq_show hX.1 hX.2.1 hc hr iO v1 o.2.1 mi.1 mi.2.1 mt.2.2.2.1 mt.2.2.2.2.1
    exact ⟨_, _, _, _, _, _, _, _, _, _, e1, e2, rfl, iW, Or.inr ⟨X, hX, hc, hr, hg, hn⟩, qo⟩
