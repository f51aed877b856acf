/-! ways of the reference. -/
theorem cmpGE {x y : Int64} : (0 ≤ lg_cmp x y) = (¬ x < y) := by
  have e := cmpL (x := x) (y := y)
  refine propext ⟨fun h z => ?_, fun h => ?_⟩
  · have := e.mpr z
    rw [Int32.le_iff_toInt_le] at h
    rw [Int32.lt_iff_toInt_lt] at this
    omega
  · have : ¬ lg_cmp x y < 0 := fun z => h (e.mp z)
    rw [Int32.lt_iff_toInt_lt] at this
    rw [Int32.le_iff_toInt_le]
    omega
theorem m_plus (x y : Nat) : f_BargeBasinModel_plus (lN (capM x)) (lN (capM y)) = some (lN (capM (x + y))) := by
  have hx := capM_le x
  have hy := capM_le y
  have e := capM_add x y
  unfold f_BargeBasinModel_plus
  simp only [cmpGE, lN_add]
  rw [← e]
  have eM : (4611686018427387904 : Int64) = lN 4611686018427387904 := rfl
  by_cases c : capM x + capM y = 9223372036854775808
  · rw [c]
    rw [if_neg (show ¬ ¬ lN 9223372036854775808 < 4611686018427387904 by decide), if_neg (show ¬ ¬ lN 9223372036854775808 < 0 by decide)]
    rfl
  · have lt : capM x + capM y < 2 ^ 63 := by omega
    by_cases d : capM x + capM y < 4611686018427387904
    · have l1 : lN (capM x + capM y) < 4611686018427387904 := (pk_lLT lt (show 4611686018427387904 < 2 ^ 63 by decide)).mpr d
      have l2 : ¬ lN (capM x + capM y) < 0 := fun z => by
        have := (pk_lLT lt (show 0 < 2 ^ 63 by decide)).mp z
        omega
      rw [if_neg (fun z => z l1), if_pos l2]
      refine congrArg some (congrArg lN ?_)
      show _ = min 4611686018427387904 (capM x + capM y)
      omega
    · have l1 : ¬ lN (capM x + capM y) < 4611686018427387904 := fun z => d ((pk_lLT lt (show 4611686018427387904 < 2 ^ 63 by decide)).mp z)
      rw [if_pos l1, eM]
      refine congrArg some (congrArg lN ?_)
      show _ = min 4611686018427387904 (capM x + capM y)
      omega
theorem prA_pre {B : Bas} {most : Nat} {L : List (Nat → Nat)} {u : Nat} : ∀ k, ∃ r, prA B most L (u + k) = prA B most L u ++ r
  | 0 => ⟨[], by simp⟩
  | k + 1 => by
    obtain ⟨r, e⟩ := prA_pre k (B := B) (most := most) (L := L) (u := u)
    exact ⟨r ++ prs (u + k) (mvs B (gt L (u + k)) most false), by rw [← Nat.add_assoc, prA_s, e, List.append_assoc]⟩
theorem prA_at {B : Bas} {most : Nat} {L : List (Nat → Nat)} {u n j : Nat} (hu : u < n) (hj : j < (mvs B (gt L u) most false).length) : ∃ h : (prA B most L u).length + j < (prA B most L n).length, (prA B most L n)[(prA B most L u).length + j] = (u, (mvs B (gt L u) most false)[j]) := by
  obtain ⟨r, e⟩ := prA_pre (B := B) (most := most) (L := L) (u := u + 1) (n - (u + 1))
  rw [show u + 1 + (n - (u + 1)) = n by omega, prA_s] at e
  have l : (prA B most L u).length + j < (prA B most L n).length := by
    rw [e, List.length_append, List.length_append, prs_len]; omega
  refine ⟨l, ?_⟩
  simp only [e]
  rw [List.getElem_append_left (by rw [List.length_append, prs_len]; omega), List.getElem_append_right (by omega)]
  simp [prs]
def psi (B : Bas) (but : Option Nat) (F : List (Nat → Nat)) (dep : Nat → Nat) (D u : Nat) : Nat := if dep u ≤ D then cntS B but (D - dep u) (gt F u) else 0
theorem m_wyL123 {B : Bas} {but : Option Nat} {F : List (Nat → Nat)} {par mno dep : Nat → Nat} {z u : Nat} {v4 : Int64} {kdp kfe ked keb : Nat → Int32} (h : basOk B) (hl : F.length ≤ 6000) (tr : trOk B 7 F par mno dep) (hz : z < F.length) (hfirst : ∀ a, a < F.length → freedA B (gt F a) = true → z ≤ a) (hdep : ∀ i, i < F.length → kdp i = nI (dep i) ∧ dep i ≤ i)
    (he : eR F (prA B 7 F F.length) ked keb) (hfe : ∀ s, s ≤ F.length → kfe s = nI (prA B 7 F s).length) (hal : (prA B 7 F F.length).length ≤ 1010000) (hbut : ∀ b, but = some b → b < 12) (hu : u < F.length) (hmv : (mvs B (gt F u) 7 false).length ≤ 168) :
    ∀ (r j n : Nat) (W : Nat → Nat) (kc : Nat → Int64), j + r = (mvs B (gt F u) 7 false).length → r < n → wR F.length kc W →
      ∃ W' kc', f_BargeBasinModel_ways_L123 (oI but) (nI (dep z)) v4 (nI u) kdp kfe ked keb n (nI ((prA B 7 F u).length + j)) kc = some kc' ∧ wR F.length kc' W' ∧ W' u = W u ∧
        sumQ W' (psi B but F dep (dep z)) (List.range' (u + 1) (F.length - (u + 1))) = sumQ W (psi B but F dep (dep z)) (List.range' (u + 1) (F.length - (u + 1))) + (if dep u < dep z then W u * (((mvs B (gt F u) 7 false).drop j).map fun c => if some (c / 32) = but then 0 else cntS B but (dep z - dep u - 1) (tgt (gt F u) c)).sum else 0) := by
  obtain ⟨d1, d2⟩ := hdep u hu
  have dz := (hdep z hz).2
  have plen : (prA B 7 F (u + 1)).length = (prA B 7 F u).length + (mvs B (gt F u) 7 false).length := by rw [prA_s, List.length_append, prs_len]
  have ple : (prA B 7 F (u + 1)).length ≤ (prA B 7 F F.length).length := by
    obtain ⟨r, e⟩ := prA_pre (B := B) (most := 7) (L := F) (u := u + 1) (F.length - (u + 1))
    rw [show u + 1 + (F.length - (u + 1)) = F.length by omega] at e
    rw [e, List.length_append]; omega
  intro r
  induction r with
  | zero =>
    intro j n W kc h1 h2 h3
    obtain ⟨n, rfl⟩ : ∃ y, n = y + 1 := ⟨n - 1, by omega⟩
    refine ⟨W, kc, ?_, h3, rfl, ?_⟩
    · rw [f_BargeBasinModel_ways_L123, nI_1, ev_grdN _ (show u + 1 < 6002 by omega) (by decide), nI_clamp (show u + 1 < 2 ^ 31 by omega), hfe (u + 1) (by omega), if_pos (nI_le (by omega) (by omega))]
    · rw [List.drop_of_length_le (show (mvs B (gt F u) 7 false).length ≤ j by omega)]
      simp
  | succ r ih =>
    intro j n W kc h1 h2 h3
    obtain ⟨n, rfl⟩ : ∃ y, n = y + 1 := ⟨n - 1, by omega⟩
    have hj : j < (mvs B (gt F u) 7 false).length := by omega
    obtain ⟨l1, l2⟩ := prA_at (B := B) (most := 7) (L := F) hu hj
    obtain ⟨a, a1, a2, a3, a4⟩ := he _ l1
    rw [l2] at a3 a4
    simp only at a3 a4
    have hc : (mvs B (gt F u) 7 false)[j] ∈ mvs B (gt F u) 7 false := List.getElem_mem hj
    have c4 := mvs_400 h hc
    obtain ⟨e1, e2⟩ := hdep a a1
    rw [f_BargeBasinModel_ways_L123, nI_1, ev_grdN _ (show u + 1 < 6002 by omega) (by decide), nI_clamp (show u + 1 < 2 ^ 31 by omega), hfe (u + 1) (by omega), if_neg (nI_ge (by omega) (by omega)), ev_grdN _ (show u < 6001 by omega) (by decide), nI_clamp (show u < 2 ^ 31 by omega), d1]
    by_cases lt : dep u < dep z
    · rw [if_neg (nI_ge lt (by omega)), ev_grdN _ (show (prA B 7 F u).length + j < 1010000 by omega) (by decide), ev_bnd, nI_clamp (show (prA B 7 F u).length + j < 2 ^ 31 by omega), a2, a4, ev_grdN _ (show a < 6001 by omega) (by decide), ev_grdN _ (show u < 6001 by omega) (by decide), nI_clamp (show a < 2 ^ 31 by omega), e1, nI_1]
      rw [if_pos lt, List.drop_eq_getElem_cons hj, List.map_cons, List.sum_cons]
      have ce : (nI (dep a) = nI (dep u + 1)) = (dep a = dep u + 1) := nI_eqL (by omega) (by omega)
      simp only [ce]
      have skip : (if some ((mvs B (gt F u) 7 false)[j] / 32) = but then 0 else cntS B but (dep z - dep u - 1) (tgt (gt F u) (mvs B (gt F u) 7 false)[j])) = 0 →
          ∃ W' kc', f_BargeBasinModel_ways_L123 (oI but) (nI (dep z)) v4 (nI u) kdp kfe ked keb n (nI ((prA B 7 F u).length + j) + 1) kc = some kc' ∧ wR F.length kc' W' ∧ W' u = W u ∧
          sumQ W' (psi B but F dep (dep z)) (List.range' (u + 1) (F.length - (u + 1))) = sumQ W (psi B but F dep (dep z)) (List.range' (u + 1) (F.length - (u + 1))) + W u * ((if some ((mvs B (gt F u) 7 false)[j] / 32) = but then 0 else cntS B but (dep z - dep u - 1) (tgt (gt F u) (mvs B (gt F u) 7 false)[j])) + (((mvs B (gt F u) 7 false).drop (j + 1)).map fun c => if some (c / 32) = but then 0 else cntS B but (dep z - dep u - 1) (tgt (gt F u) c)).sum) := by
        intro y
        have := ih (j + 1) n W kc (by omega) (by omega) h3
        rw [if_pos lt] at this
        rw [y, Nat.zero_add, nI_1]
        exact this
      have cb : (nI ((mvs B (gt F u) 7 false)[j] / 32) = oI but) = (some ((mvs B (gt F u) 7 false)[j] / 32) = but) := by
        have q := oI_eq (o := but) (b := (mvs B (gt F u) 7 false)[j] / 32) (by omega) (fun c hc => by have := hbut c hc; omega)
        refine propext ⟨fun y => (q.mp y.symm).symm, fun y => (q.mpr y.symm).symm⟩
      have te := tr_edge tr hu a1 hc a3
      by_cases de : dep a = dep u + 1
      · rw [if_pos de, ev_grdN _ (show (prA B 7 F u).length + j < 1010000 by omega) (by decide)]
        by_cases eb : some ((mvs B (gt F u) 7 false)[j] / 32) = but
        · rw [if_pos (cb.mpr eb), ev_bnd]
          exact skip (by rw [if_pos eb])
        · have au : u < a := by
            apply Nat.lt_of_not_le
            intro y
            have := tr_mono tr u hu a y
            omega
          rw [if_neg (fun y => eb (cb.mp y)), ev_grdN _ (show a < 6001 by omega) (by decide), ev_grdN _ (show u < 6001 by omega) (by decide), h3 a a1, h3 u hu, ev_b _ (m_plus _ _), ev_grdN _ (show a < 6001 by omega) (by decide), ev_bnd, nI_1]
          obtain ⟨W2, kc2, f1, f2, f3, f4⟩ := ih (j + 1) n (updN W a (W a + W u)) (vp_updL kc a (lN (capM (W a + W u)))) (by omega) (by omega) (wR_upd h3)
          have una : updN W a (W a + W u) u = W u := updN_n (by omega)
          refine ⟨W2, kc2, f1, f2, by rw [f3, una], ?_⟩
          have md : a ∈ List.range' (u + 1) (F.length - (u + 1)) := by
            rw [List.mem_range'_1]; omega
          rw [f4, if_pos lt, sumQ_in (List.nodup_range' (step := 1)) md, una, if_neg eb, Nat.mul_add]
          have ps : psi B but F dep (dep z) a = cntS B but (dep z - dep u - 1) (tgt (gt F u) (mvs B (gt F u) 7 false)[j]) := by
            unfold psi
            rw [if_pos (show dep a ≤ dep z by omega), ← a3, show dep z - dep a = dep z - dep u - 1 by omega]
          rw [ps]
          omega
      · rw [if_neg de, ev_bnd]
        refine skip ?_
        split
        · rfl
        · refine cnt_far (fun y => ?_)
          rw [← a3] at y
          obtain ⟨x, x1, x2, x3⟩ := tr_can tr _ a a1 y
          have zx := hfirst x x1 x2
          have := tr_mono tr x x1 z zx
          omega
    · rw [if_pos (nI_le (by omega) (by omega))]
      exact ⟨W, kc, rfl, h3, rfl, by rw [if_neg lt]; exact (Nat.add_zero _).symm⟩
theorem m_wyL71 {B : Bas} {but : Option Nat} {F : List (Nat → Nat)} {par mno dep : Nat → Nat} {z : Nat} {kk kg kpl kdp kfe ked keb : Nat → Int32} (h : basOk B) (hl : F.length ≤ 6000) (hst : ∀ P, P ∈ F → stC B P) (hk : ∀ b, b < bn B → kk b = nI (bK B b)) (hg : chG B kg) (hp : rP B F kpl) (tr : trOk B 7 F par mno dep) (hz : z < F.length) (hfirst : ∀ a, a < F.length → freedA B (gt F a) = true → z ≤ a) (hdep : ∀ i, i < F.length → kdp i = nI (dep i) ∧ dep i ≤ i)
    (he : eR F (prA B 7 F F.length) ked keb) (hfe : ∀ s, s ≤ F.length → kfe s = nI (prA B 7 F s).length) (hal : (prA B 7 F F.length).length ≤ 1010000) (hbut : ∀ b, but = some b → b < 12) :
    ∀ (r u n : Nat) (W : Nat → Nat) (pl tot : Nat) (kc : Nat → Int64), u + r = F.length → r < n → wR F.length kc W → sumQ W (psi B but F dep (dep z)) (List.range' u (F.length - u)) + pl = tot →
      ∃ kc', f_BargeBasinModel_ways_L71 (oI but) (nI (dep z)) (nI (bn B)) (nI F.length) kk kg kpl kdp kfe ked keb n (lN (capM pl)) (nI u) kc = some (lN (capM tot), kc') := by
  have dz := (hdep z hz).2
  intro r
  induction r with
  | zero =>
    intro u n W pl tot kc h1 h2 h3 h4
    obtain ⟨n, rfl⟩ : ∃ y, n = y + 1 := ⟨n - 1, by omega⟩
    rw [show F.length - u = 0 by omega] at h4
    have : pl = tot := by simpa [sumQ] using h4
    exact ⟨kc, by rw [f_BargeBasinModel_ways_L71, if_pos (nI_le (by omega) (by omega)), this]⟩
  | succ r ih =>
    intro u n W pl tot kc h1 h2 h3 h4
    obtain ⟨n, rfl⟩ : ∃ y, n = y + 1 := ⟨n - 1, by omega⟩
    have hu : u < F.length := by omega
    obtain ⟨d1, d2⟩ := hdep u hu
    have mv := mvs_168 (most := 7) (bk := false) h (hst _ (gt_mem hu)).1
    rw [show F.length - u = (F.length - (u + 1)) + 1 by omega, List.range'_succ, sumQ_cons] at h4
    have fr := m_isFreedStand h hk hg hp hu (by omega) (hst _ (gt_mem hu))
    -- what stands at u, once it is counted
    have J : ∀ (pl2 : Nat), sumQ W (psi B but F dep (dep z)) (List.range' (u + 1) (F.length - (u + 1))) + (if dep u < dep z then W u * psi B but F dep (dep z) u else 0) + pl2 = tot →
        ∃ kc', f_BargeBasinModel_ways_J114 (f_BargeBasinModel_ways_L71 (oI but) (nI (dep z)) (nI (bn B)) (nI F.length) kk kg kpl kdp kfe ked keb n) (oI but) (nI (dep z)) (lN (capM pl2)) (nI u) kdp kfe ked keb kc = some (lN (capM tot), kc') := by
      intro pl2 hpl
      obtain ⟨W1, kc1, f1, f2, f3, f4⟩ := m_wyL123 (but := but) (v4 := lN (capM pl2)) h hl tr hz hfirst hdep he hfe hal hbut hu mv (mvs B (gt F u) 7 false).length 0 jN W kc (by omega) (by show _ < 2000000; omega) h3
      obtain ⟨kc2, e2⟩ := ih (u + 1) n W1 pl2 tot kc1 (by omega) (by omega) f2 (by
        rw [f4, List.drop_zero]
        by_cases lt : dep u < dep z
        · rw [if_pos lt]
          rw [if_pos lt] at hpl
          have ps : psi B but F dep (dep z) u = ((mvs B (gt F u) 7 false).map fun c => if some (c / 32) = but then 0 else cntS B but (dep z - dep u - 1) (tgt (gt F u) c)).sum := by
            unfold psi
            rw [if_pos (show dep u ≤ dep z by omega)]
            obtain ⟨m, hm⟩ : ∃ m, dep z - dep u = m + 1 := ⟨dep z - dep u - 1, by omega⟩
            rw [hm, Nat.add_sub_cancel]
            rfl
          rw [← ps]
          exact hpl
        · rw [if_neg lt]
          rw [if_neg lt] at hpl
          exact hpl)
      refine ⟨kc2, ?_⟩
      unfold f_BargeBasinModel_ways_J114
      rw [Nat.add_zero] at f1
      rw [ev_grdN _ (show u < 6002 by omega) (by decide), ev_bnd, nI_clamp (show u < 2 ^ 31 by omega), hfe u (by omega), ev_b _ f1, ev_bnd, nI_1, e2]
    rw [f_BargeBasinModel_ways_L71, if_neg (nI_ge hu (by omega)), ev_grdN _ (show u < 6001 by omega) (by decide), nI_clamp (show u < 2 ^ 31 by omega), d1, ev_b _ fr]
    have ce : (nI (dep u) = nI (dep z)) = (dep u = dep z) := nI_eqL (by omega) (by omega)
    simp only [ce]
    by_cases de : dep u = dep z
    · rw [if_pos de]
      have ps : psi B but F dep (dep z) u = if freedA B (gt F u) then 1 else 0 := by
        unfold psi
        rw [if_pos (show dep u ≤ dep z by omega), show dep z - dep u = 0 by omega]
        rfl
      rw [ps] at h4
      cases ef : freedA B (gt F u) with
      | false =>
        rw [ef, if_neg (show ¬ false = true by decide), Nat.mul_zero] at h4
        rw [if_pos (show bI false = 0 by decide)]
        exact J pl (by rw [if_neg (by omega)]; omega)
      | true =>
        rw [ef, if_pos (show true = true from rfl), Nat.mul_one] at h4
        rw [if_neg (show ¬ bI true = 0 by decide), ev_grdN _ (show u < 6001 by omega) (by decide), h3 u hu, ev_b _ (m_plus _ _)]
        exact J (pl + W u) (by rw [if_neg (by omega)]; omega)
    · rw [if_neg de]
      refine J pl ?_
      by_cases lt : dep u < dep z
      · rw [if_pos lt]; omega
      · rw [if_neg lt]
        have ps : psi B but F dep (dep z) u = 0 := by unfold psi; rw [if_neg (by omega)]
        rw [ps, Nat.mul_zero] at h4
        omega
/-- what a count of plans comes to -/
def wyX (B : Bas) (but : Option Nat) (P : Nat → Nat) (n : Int64) : Prop :=
  (6000 < (FL B 7 P).length ∧ n = -10) ∨ ((FL B 7 P).length ≤ 6000 ∧ (∀ k, ¬ canD B 7 k P) ∧ n = -11) ∨ ((FL B 7 P).length ≤ 6000 ∧ ∃ k, isD B 7 P k ∧ n = lN (capM (cntS B but k P)))
theorem m_ways {B : Bas} {but : Option Nat} {P : Nat → Nat} {kwl kk kat ks ky kg : Nat → Int32} (h : basOk B) (hP : stC B P) (hr : rfB B kk ks ky) (hwl : rfW B kwl) (hp : chP B P kat) (hg : chG B kg) (hbut : ∀ b, but = some b → b < 12) (st0 ed0 : Int32) (kpl khd kch kdp kpr kbb kby kbs kfe ked keb : Nat → Int32) (kc : Nat → Int64) (kwho kh : Nat → Int32) :
    ∃ (n : Int64) (st ed : Int32) (kpl' khd' kch' kdp' kpr' kbb' kby' kbs' kfe' ked' keb' : Nat → Int32) (kc' : Nat → Int64) (kwho' kh' : Nat → Int32), f_BargeBasinModel_ways (oI but) (nI (bw B)) (nI (bh B)) (nI (bn B)) st0 ed0 kwl kk kat ks ky kg kpl khd kch kdp kpr kbb kby kbs kfe ked keb kc kwho kh = some (n, st, ed, kpl', khd', kch', kdp', kpr', kbb', kby', kbs', kfe', ked', keb', kc', kwho', kh') ∧ wyX B but P n := by
  obtain ⟨well, st, ed, b1, b2, b3, b4, b5, b6, b7, b8, b9, b10, b11, b12, b13, f1, f2, f3⟩ := m_looksAtAll (sg := false) h hP hr hwl hp rfl st0 ed0 kpl khd kch kdp kpr kbb kby kbs kfe ked keb kwho kh
  rw [show bI false = (0 : Int32) from rfl] at f1
  unfold f_BargeBasinModel_ways
  rw [ev_b _ f1, un16_ap]
  cases well with
  | false =>
    rw [if_pos (show bI false = 0 by decide)]
    exact ⟨_, _, _, _, _, _, _, _, _, _, _, _, _, _, _, _, _, rfl, Or.inl ⟨f3 rfl, rfl⟩⟩
  | true =>
    obtain ⟨g1, g2, ⟨g3, g4⟩, g5⟩ := f2 rfl
    subst g2
    have g1' : (FL B 7 P).length ≤ 6000 := g1
    obtain ⟨-, er, par, mno, dep, ht⟩ := id g4
    have tr := tr_of FL_nd (FL_clsd g1) ht
    obtain ⟨o, e1, o1, o2⟩ := m_firstFreed h (fun b hb => (hr b hb).1) hg g3.2.1 g1 g3.1
    obtain ⟨z0, z1⟩ := FL_0 (B := B) (most := 7) (P := P)
    have gP : gt (FL B 7 P) 0 = P := by rw [gt_at z0]; exact z1
    rw [if_neg (show ¬ bI true = 0 by decide), ev_b _ e1]
    cases o with
    | none =>
      rw [if_neg (show ¬ 0 ≤ oI none by decide)]
      exact ⟨_, _, _, _, _, _, _, _, _, _, _, _, _, _, _, _, _, rfl, Or.inr (Or.inl ⟨g1', fun k hc => tr_none tr (o2 rfl) z0 (by rw [show gt (FL B (if false = true then 1 else 7) P) 0 = P from gP]; exact hc), rfl⟩)⟩
    | some z =>
      obtain ⟨y1, y2, y3⟩ := o1 z rfl
      have dz := ht.2.1 z y1
      have fz : ∀ a, a < (FL B 7 P).length → freedA B (gt (FL B 7 P) a) = true → z ≤ a := by
        intro a ha hf
        apply Nat.le_of_not_lt
        intro y
        have := y3 a y
        rw [show gt (FL B (if false = true then 1 else 7) P) a = gt (FL B 7 P) a from rfl, hf] at this
        cases this
      obtain ⟨t1, t2⟩ := tr_plan tr y1 y2 y3 (dep z) (Nat.le_refl _)
      rw [up_root tr y1, show gt (FL B (if false = true then 1 else 7) P) 0 = P from gP] at t1
      have al : (prA B 7 (FL B 7 P) (FL B 7 P).length).length ≤ 1010000 := by
        have := prA_len (B := B) (most := 7) (L := FL B 7 P) h g3.1 (Nat.le_refl _)
        omega
      have loop : ∀ (r u n : Nat) (kw : Nat → Int64), u + r = (FL B 7 P).length → r < n → (∀ v, v < u → kw v = 0) → ∃ kw', f_BargeBasinModel_ways_L35 (oI but) (nI (dep z)) (nI (FL B 7 P).length) n (nI u) kw = some kw' ∧ ∀ v, v < (FL B 7 P).length → kw' v = 0 := by
        intro r
        induction r with
        | zero =>
          intro u n kw h1 h2 h3
          obtain ⟨n, rfl⟩ : ∃ z, n = z + 1 := ⟨n - 1, by omega⟩
          exact ⟨kw, by rw [f_BargeBasinModel_ways_L35, if_pos (nI_le (by omega) (by omega))], fun v hv => h3 v (by omega)⟩
        | succ r ih =>
          intro u n kw h1 h2 h3
          obtain ⟨n, rfl⟩ : ∃ z, n = z + 1 := ⟨n - 1, by omega⟩
          rw [f_BargeBasinModel_ways_L35, if_neg (nI_ge (by omega) (by omega)), ev_grdN _ (show u < 6001 by omega) (by decide), ev_bnd, nI_1, nI_clamp (by omega)]
          refine ih (u + 1) n _ (by omega) (by omega) (fun v hv => ?_)
          by_cases e : v = u
          · subst e; exact pk_uLs
          · rw [pk_uLn e]; exact h3 v (by omega)
      obtain ⟨kw0, e2, w0⟩ := loop (FL B 7 P).length 0 jN kc (by omega) (by show _ < 2000000; omega) (fun v hv => by omega)
      have l0 : 0 < (FL B 7 P).length := z0
      obtain ⟨kc2, e3⟩ := m_wyL71 (but := but) (par := par) (mno := mno) h g1' g3.1 (fun b hb => (hr b hb).1) hg g3.2.1 tr y1 fz ht.2.1 er g5 al hbut (FL B 7 P).length 0 jN (updN (fun _ => 0) 0 1) 0 (cntS B but (dep z) P) (vp_updL kw0 0 1) (by omega) (by show _ < 2000000; omega) (by
        intro u hu
        by_cases e : u = 0
        · subst e; rw [pk_uLs, updN_s]; rfl
        · rw [pk_uLn e, updN_n e, w0 u hu]; rfl) (by
        rw [Nat.sub_zero, show (FL B 7 P).length = ((FL B 7 P).length - 1) + 1 by omega, List.range'_succ, sumQ_cons, updN_s, Nat.one_mul, sumQ_out (by rw [List.mem_range'_1]; omega)]
        have s0 : sumQ (fun _ => 0) (psi B but (FL B 7 P) dep (dep z)) (List.range' (0 + 1) ((FL B 7 P).length - 1)) = 0 := by
          unfold sumQ
          exact sum_zero (fun c _ => Nat.zero_mul _)
        rw [s0]
        unfold psi
        rw [tr.2.2.1, if_pos (Nat.zero_le _), gP]
        rfl)
      rw [nI_0] at e2 e3
      rw [show lN (capM 0) = 0 from rfl] at e3
      rw [show oI (some z) = nI z from rfl, if_pos (nI_pos' (by have : z < (FL B 7 P).length := y1; omega)), ev_grdN _ (show z < 6001 by have : z < (FL B 7 P).length := y1; omega) (by decide), ev_bnd, nI_clamp (show z < 2 ^ 31 by have : z < (FL B 7 P).length := y1; omega), dz.1, ev_b _ (show f_BargeBasinModel_ways_L35 (oI but) (nI (dep z)) (nI (FL B (if false = true then 1 else 7) P).length) jN 0 kc = _ from e2), ev_grd _ (show vp_in 0 6001 from vp_in_nI (n := 0) (by decide) (by decide)), ev_b _ (show f_BargeBasinModel_ways_L71 (oI but) (nI (dep z)) (nI (bn B)) (nI (FL B (if false = true then 1 else 7) P).length) kk kg b1 b4 b9 b10 b11 jN 0 0 (vp_updL kw0 (0 : Int32).toNatClampNeg 1) = _ from e3), un2_ap]
      exact ⟨_, _, _, _, _, _, _, _, _, _, _, _, _, _, _, _, _, rfl, Or.inr (Or.inr ⟨g1', dep z, t1, rfl⟩)⟩
