set_option maxHeartbeats 1000000 in
set_option maxRecDepth 100000 in
theorem ws_STEP {s : State} {b : Nat} (hts0 : ∀ w ∈ lw_tbl, w.before #[Value.ref b] s = true) (hgv : (Jvm.Cond.and given_1 narrow_1).before #[Value.ref b] s = true) : ∃ aS : Nat, va_Z "BargeBasin" "STEP" "[I" (.ref aS) (fun q : Nat => s.heap.size ≤ q) s s.heap ∧ jX aS sv_STEP (fun q : Nat => s.heap.size ≤ q) s s.heap := by
  have hAn : ∀ a : Nat, a < s.heap.size → ¬ (fun q : Nat => s.heap.size ≤ q) a := fun a h => Nat.not_le.mpr h
  have hg := flat_of_before _ hgv
  have hts : ∀ w ∈ wsL_law, w.before #[Value.ref b] s = true := fun w h => hts0 w (wsL_law_in w h)
  obtain ⟨aS, eaS, hX_STEP⟩ := jX_of (tm := (.static "BargeBasin" "STEP" "[I")) (f := sv_STEP) (A := fun q : Nat => s.heap.size ≤ q) (hg _ (by decide +kernel)) (hg _ (by decide +kernel)) (hg _ (by decide +kernel)) (hg _ (by decide +kernel)) (hg _ (by decide +kernel)) (hg _ (by decide +kernel)) hAn
  have hZ_STEP : va_Z "BargeBasin" "STEP" "[I" (.ref aS) (fun q : Nat => s.heap.size ≤ q) s s.heap := va_Zof (hts0 (.laysStatic "BargeBasin" "STEP" "[I") (mT_2 _ (List.mem_of_getElem? (i := 196) (by decide +kernel)))) (hts (.initialized RX6) (List.mem_of_getElem? (i := 2) (by decide +kernel))) eaS hAn
  exact ⟨aS, hZ_STEP, hX_STEP⟩
set_option maxHeartbeats 1000000 in
set_option maxRecDepth 100000 in
theorem ws_STEP_X {s : State} {b : Nat} (hts0 : ∀ w ∈ lw_tbl, w.before #[Value.ref b] s = true) (hgv : (Jvm.Cond.and given_1 narrow_1).before #[Value.ref b] s = true) : ∃ aX : Nat, va_Z "BargeBasin" "STEP_X" "[I" (.ref aX) (fun q : Nat => s.heap.size ≤ q) s s.heap ∧ jX aX sv_STEP_X (fun q : Nat => s.heap.size ≤ q) s s.heap := by
  have hAn : ∀ a : Nat, a < s.heap.size → ¬ (fun q : Nat => s.heap.size ≤ q) a := fun a h => Nat.not_le.mpr h
  have hg := flat_of_before _ hgv
  have hts : ∀ w ∈ wsL_law, w.before #[Value.ref b] s = true := fun w h => hts0 w (wsL_law_in w h)
  obtain ⟨aX, eaX, hX_STEP_X⟩ := jX_of (tm := (.static "BargeBasin" "STEP_X" "[I")) (f := sv_STEP_X) (A := fun q : Nat => s.heap.size ≤ q) (hg _ (by decide +kernel)) (hg _ (by decide +kernel)) (hg _ (by decide +kernel)) (hg _ (by decide +kernel)) (hg _ (by decide +kernel)) (hg _ (by decide +kernel)) hAn
  have hZ_STEP_X : va_Z "BargeBasin" "STEP_X" "[I" (.ref aX) (fun q : Nat => s.heap.size ≤ q) s s.heap := va_Zof (hts0 (.laysStatic "BargeBasin" "STEP_X" "[I") (mT_2 _ (List.mem_of_getElem? (i := 192) (by decide +kernel)))) (hts (.initialized RX6) (List.mem_of_getElem? (i := 2) (by decide +kernel))) eaX hAn
  exact ⟨aX, hZ_STEP_X, hX_STEP_X⟩
set_option maxHeartbeats 1000000 in
set_option maxRecDepth 100000 in
theorem ws_STEP_Y {s : State} {b : Nat} (hts0 : ∀ w ∈ lw_tbl, w.before #[Value.ref b] s = true) (hgv : (Jvm.Cond.and given_1 narrow_1).before #[Value.ref b] s = true) : ∃ aY : Nat, va_Z "BargeBasin" "STEP_Y" "[I" (.ref aY) (fun q : Nat => s.heap.size ≤ q) s s.heap ∧ jX aY sv_STEP_Y (fun q : Nat => s.heap.size ≤ q) s s.heap := by
  have hAn : ∀ a : Nat, a < s.heap.size → ¬ (fun q : Nat => s.heap.size ≤ q) a := fun a h => Nat.not_le.mpr h
  have hg := flat_of_before _ hgv
  have hts : ∀ w ∈ wsL_law, w.before #[Value.ref b] s = true := fun w h => hts0 w (wsL_law_in w h)
  obtain ⟨aY, eaY, hX_STEP_Y⟩ := jX_of (tm := (.static "BargeBasin" "STEP_Y" "[I")) (f := sv_STEP_Y) (A := fun q : Nat => s.heap.size ≤ q) (hg _ (by decide +kernel)) (hg _ (by decide +kernel)) (hg _ (by decide +kernel)) (hg _ (by decide +kernel)) (hg _ (by decide +kernel)) (hg _ (by decide +kernel)) hAn
  have hZ_STEP_Y : va_Z "BargeBasin" "STEP_Y" "[I" (.ref aY) (fun q : Nat => s.heap.size ≤ q) s s.heap := va_Zof (hts0 (.laysStatic "BargeBasin" "STEP_Y" "[I") (mT_2 _ (List.mem_of_getElem? (i := 194) (by decide +kernel)))) (hts (.initialized RX6) (List.mem_of_getElem? (i := 2) (by decide +kernel))) eaY hAn
  exact ⟨aY, hZ_STEP_Y, hX_STEP_Y⟩
set_option maxHeartbeats 1000000 in
set_option maxRecDepth 100000 in
theorem ws_T {s : State} {b : Nat} (hts0 : ∀ w ∈ lw_tbl, w.before #[Value.ref b] s = true) (hgv : (Jvm.Cond.and given_1 narrow_1).before #[Value.ref b] s = true) : vx_Zq Bundle.tN "UNASSIGNED_STACK" Bundle.steD (fun q : Nat => s.heap.size ≤ q) s s.heap ∧ vx_Zq Bundle.tN "SUPPRESSED_SENTINEL" Bundle.listD (fun q : Nat => s.heap.size ≤ q) s s.heap := by
  have hAn : ∀ a : Nat, a < s.heap.size → ¬ (fun q : Nat => s.heap.size ≤ q) a := fun a h => Nat.not_le.mpr h
  have hg := flat_of_before _ hgv
  have hts : ∀ w ∈ wsL_law, w.before #[Value.ref b] s = true := fun w h => hts0 w (wsL_law_in w h)
  have hU : vx_Zq Bundle.tN "UNASSIGNED_STACK" Bundle.steD (fun q : Nat => s.heap.size ≤ q) s s.heap := vx_Zqof (hts0 (.laysStatic Bundle.tN "UNASSIGNED_STACK" Bundle.steD) (mT_4 _ (List.mem_of_getElem? (i := 151) (by decide +kernel)))) (hts0 (.initialized Bundle.tN) (mT_1 _ (List.mem_of_getElem? (i := 11) (by decide +kernel)))) (hg _ (by decide +kernel)) hAn
  have hNN : vx_Zq Bundle.tN "SUPPRESSED_SENTINEL" Bundle.listD (fun q : Nat => s.heap.size ≤ q) s s.heap := vx_Zqof (hts0 (.laysStatic Bundle.tN "SUPPRESSED_SENTINEL" Bundle.listD) (mT_4 _ (List.mem_of_getElem? (i := 153) (by decide +kernel)))) (hts0 (.initialized Bundle.tN) (mT_1 _ (List.mem_of_getElem? (i := 11) (by decide +kernel)))) (hg _ (by decide +kernel)) hAn
  exact ⟨hU, hNN⟩
