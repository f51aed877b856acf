set_option maxHeartbeats 1000000 in
set_option maxRecDepth 100000 in
theorem ws_K {s : State} {b : Nat} (hts0 : ∀ w ∈ lw_tbl, w.before #[Value.ref b] s = true) : ∃ (D : va_G) (cT : Nat → ClassId), va_K D vwCl (jT cT) s := by
  have hts : ∀ w ∈ wsL_law, w.before #[Value.ref b] s = true := fun w h => hts0 w (wsL_law_in w h)
  obtain ⟨c0, iS0, hKn0⟩ := u_known (C := RX0) (T := TX0) (N := 13) (n := 13) hts0 inX0 (hts (.instantiable RX0 13) (List.mem_of_getElem? (i := 18) (by decide +kernel)))
  obtain ⟨c1, iS1, hKn1⟩ := u_known (C := RX1) (T := TX1) (N := 1) (n := 1) hts0 inX1 (hts (.instantiable RX1 1) (List.mem_of_getElem? (i := 990) (by decide +kernel)))
  obtain ⟨c2, iS2, hKn2⟩ := u_known (C := RX2) (T := TX2) (N := 4) (n := 4) hts0 inX2 (hts (.instantiable RX2 4) (List.mem_of_getElem? (i := 14) (by decide +kernel)))
  obtain ⟨c3, iS3, hKn3⟩ := u_known (C := RX3) (T := TX3) (N := 4) (n := 4) hts0 inX3 (hts (.instantiable RX3 4) (List.mem_of_getElem? (i := 23) (by decide +kernel)))
  obtain ⟨c4, iS4, hKn4⟩ := u_known (C := RX4) (T := TX4) (N := 2) (n := 2) hts0 inX4 (hts (.instantiable RX4 2) (List.mem_of_getElem? (i := 792) (by decide +kernel)))
  obtain ⟨c5, iS5, hKn5⟩ := u_known (C := RX5) (T := TX5) (N := 12) (n := 12) hts0 inX5 (hts (.instantiable RX5 12) (List.mem_of_getElem? (i := 687) (by decide +kernel)))
  obtain ⟨c6, iS6, hKn6⟩ := u_known (C := RX6) (T := TX6) (N := 13) (n := 13) hts0 inX6 (hts (.instantiable RX6 13) (List.mem_of_getElem? (i := 1) (by decide +kernel)))
  obtain ⟨c7, iS7, hKn7⟩ := u_known (C := RX7) (T := TX7) (N := 72) (n := 72) hts0 inX7 (hts (.instantiable RX7 72) (List.mem_of_getElem? (i := 4) (by decide +kernel)))
  obtain ⟨cA0, hA0⟩ := ar_of (ty := .int) (fun C h => by cases h) (hts (.arrayClass .int) (List.mem_of_getElem? (i := 35) (by decide +kernel)))
  obtain ⟨cA1, hA1⟩ := ar_of (ty := .long) (fun C h => by cases h) (hts (.arrayClass .long) (List.mem_of_getElem? (i := 6) (by decide +kernel)))
  obtain ⟨cA2, hA2⟩ := ar_of (ty := .boolean) (fun C h => by cases h) (hts (.arrayClass .boolean) (List.mem_of_getElem? (i := 47) (by decide +kernel)))
  obtain ⟨cA3, hA3⟩ := ar_of (ty := .byte) (fun C h => by cases h) (hts (.arrayClass .byte) (List.mem_of_getElem? (i := 27) (by decide +kernel)))
  have hao : (Cond.arrayOver (.object "BargeBasin$Chart")).before #[Value.ref b] s = true := hts0 _ (mT_1 _ (List.mem_of_getElem? (i := 129) (by decide +kernel)))
  obtain ⟨cA6, hA6⟩ := aq_of hao
  refine ⟨(fun k => List.getD [c0, c1, c2, c3, c4, c5, c6, c7] k c0, fun k => List.getD [iS0, iS1, iS2, iS3, iS4, iS5, iS6, iS7] k iS0), fun k => List.getD [cA0, cA1, cA2, cA3, cA0, cA0, cA6] k cA0, ?_, ?_⟩
  · exact jk8 (P := fun k q => u_Kn s q.1 q.2.1 q.2.2 (List.getD [c0, c1, c2, c3, c4, c5, c6, c7] k c0) (List.getD [iS0, iS1, iS2, iS3, iS4, iS5, iS6, iS7] k iS0)) hKn0 hKn1 hKn2 hKn3 hKn4 hKn5 hKn6 hKn7
  · exact jk7 (P := fun k q => ArrOfT s q.1 q.2 ∧ va_RA s q.1 q.2) hA0 hA1 hA2 hA3 hA0 hA0 hA6
set_option maxHeartbeats 1000000 in
set_option maxRecDepth 100000 in
theorem ws_N {s : State} {b : Nat} (hts0 : ∀ w ∈ lw_tbl, w.before #[Value.ref b] s = true) : jNw s ∧ jTw s := by
  have hao : (Cond.arrayOver (.object "BargeBasin$Chart")).before #[Value.ref b] s = true := hts0 _ (mT_1 _ (List.mem_of_getElem? (i := 129) (by decide +kernel)))
  exact ⟨⟨fun w hw => va_Nw.of (jN_on (List.all_eq_true.mp jNl_ok w hw)) (hts0 w (jNl_in w hw)), va_AO.of hao⟩, fun w hw => va_Nw.of (jT_on (List.all_eq_true.mp jThr_ok w hw)) (hts0 w (jThr_in w hw))⟩
