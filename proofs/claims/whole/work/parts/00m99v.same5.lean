/-! same of both sides. -/
def gI (n : Nat) (C : BP) : BP := if n < 4 then qI n C else qI (n - 4) (tuX true (qI 4 C))
theorem gI_s (C : BP) (i : Nat) : gI (i + 1) C = (if i = 3 then tuX true (tuX false (gI i C)) else tuX false (gI i C)) := by
  unfold gI
  by_cases z : i = 3
  · subst z; rfl
  · rw [if_neg z]
    by_cases y : i < 3
    · rw [if_pos (by omega), if_pos (by omega)]; rfl
    · rw [if_neg (by omega), if_neg (by omega), show i + 1 - 4 = (i - 4) + 1 by omega]; rfl
theorem ok_gI {C : BP} (h : okX C) (i : Nat) : okX (gI i C) := by
  unfold gI
  by_cases z : i < 4
  · rw [if_pos z]; exact ok_qI h i
  · rw [if_neg z]; exact ok_qI (ok_tu (ok_qI h 4)) _
theorem m_sameL {C K : BP} {k : Nat} {iK kW kH kN kWl kK kA kS kY kG kk ks : Nat → Int32} (hC : okX C) (hK : okX K) (hk4 : k < 4) (kp : kpR K.1 K.2 k iK kW kH kN kWl kK kA kS kY kG) :
    ∀ (r i n : Nat) (X : BP) (aw ah : Int32) (nw aat ag ay awd ata awl : Nat → Int32), i + r = 8 → r < n → X = gI i C → bn X.1 = bn C.1 → (∀ c, c < bn X.1 → kk c = nI (bK X.1 c) ∧ ks c = nI (bS X.1 c)) → asR X aw ah aat ag ay awd ata awl →
      (∃ j aw' ah' nw' aat' ag' ay' awd' ata' awl', f_BargeBasinModel_same_L60 (nI k) (nI (bn C.1)) kk ks kW kH kN kWl kK kA kS kY kG n (nI i) aw ah nw aat ag ay awd ata awl = some (.inl (nI j, aw', ah', nw', aat', ag', ay', awd', ata', awl')) ∧ i ≤ j ∧ j < 8 ∧ smX (gI j C) K ∧ ∀ l, i ≤ l → l < j → ¬ smX (gI l C) K) ∨
      (∃ aw' ah' nw' aat' ag' ay' awd' ata' awl', f_BargeBasinModel_same_L60 (nI k) (nI (bn C.1)) kk ks kW kH kN kWl kK kA kS kY kG n (nI i) aw ah nw aat ag ay awd ata awl = some (.inr (aw', ah', nw', aat', ag', ay', awd', ata', awl')) ∧ ∀ l, i ≤ l → l < 8 → ¬ smX (gI l C) K) := by
  intro r
  induction r with
  | zero =>
    intro i n X aw ah nw aat ag ay awd ata awl h1 h2 hx hn hk ha
    obtain ⟨n, rfl⟩ : ∃ z, n = z + 1 := ⟨n - 1, by omega⟩
    have e : i = 8 := by omega
    subst e
    exact Or.inr ⟨aw, ah, nw, aat, ag, ay, awd, ata, awl, by rw [f_BargeBasinModel_same_L60, if_pos (show (8 : Int32) ≤ nI 8 by decide)], fun l h3 h4 => by omega⟩
  | succ r ih =>
    intro i n X aw ah nw aat ag ay awd ata awl h1 h2 hx hn hk ha
    obtain ⟨n, rfl⟩ : ∃ z, n = z + 1 := ⟨n - 1, by omega⟩
    have ok : okX X := by rw [hx]; exact ok_gI hC i
    obtain ⟨t, t1, t2⟩ := m_isAs ok hK hk4 kp hk ha
    rw [hn] at t1
    rw [f_BargeBasinModel_same_L60, if_neg (show ¬ (8 : Int32) ≤ nI i from nI_ge (b := 8) (by omega) (by decide)), ev_b _ t1]
    cases t with
    | true =>
      rw [if_neg (show ¬ bI true = 0 by decide)]
      exact Or.inl ⟨i, aw, ah, nw, aat, ag, ay, awd, ata, awl, rfl, Nat.le_refl _, by omega, by rw [← hx]; exact t2.mp rfl, fun l h3 h4 => by omega⟩
    | false =>
      have no : ¬ smX (gI i C) K := fun z => by rw [← hx] at z; have := t2.mpr z; cases this
      obtain ⟨aw1, ah1, nw1, aat1, ag1, ay1, awd1, ata1, awl1, e1, a1⟩ := m_asTurned (ov := false) ok (fun b hb => (hk b hb).1) ha nw
      have e1' : f_BargeBasinModel_asTurned 0 (nI (bn C.1)) aw ah kk nw aat ag ay awd ata awl = some (aw1, ah1, nw1, aat1, ag1, ay1, awd1, ata1, awl1) := by rw [← hn]; exact e1
      rw [if_pos (show bI false = 0 by decide), ev_b _ e1', un9_ap]
      have i3 : (nI i = 3) = (i = 3) := nI_eqL (j := 3) (by omega) (by decide)
      simp only [i3, ev_bnd, nI_1]
      have fin : ∀ (Y : BP) (aw2 ah2 : Int32) (nw2 aat2 ag2 ay2 awd2 ata2 awl2 : Nat → Int32), Y = gI (i + 1) C → bn Y.1 = bn C.1 → (∀ c, c < bn Y.1 → kk c = nI (bK Y.1 c) ∧ ks c = nI (bS Y.1 c)) → asR Y aw2 ah2 aat2 ag2 ay2 awd2 ata2 awl2 →
        (∃ j aw' ah' nw' aat' ag' ay' awd' ata' awl', f_BargeBasinModel_same_L60 (nI k) (nI (bn C.1)) kk ks kW kH kN kWl kK kA kS kY kG n (nI (i + 1)) aw2 ah2 nw2 aat2 ag2 ay2 awd2 ata2 awl2 = some (.inl (nI j, aw', ah', nw', aat', ag', ay', awd', ata', awl')) ∧ i ≤ j ∧ j < 8 ∧ smX (gI j C) K ∧ ∀ l, i ≤ l → l < j → ¬ smX (gI l C) K) ∨
        (∃ aw' ah' nw' aat' ag' ay' awd' ata' awl', f_BargeBasinModel_same_L60 (nI k) (nI (bn C.1)) kk ks kW kH kN kWl kK kA kS kY kG n (nI (i + 1)) aw2 ah2 nw2 aat2 ag2 ay2 awd2 ata2 awl2 = some (.inr (aw', ah', nw', aat', ag', ay', awd', ata', awl')) ∧ ∀ l, i ≤ l → l < 8 → ¬ smX (gI l C) K) := by
        intro Y aw2 ah2 nw2 aat2 ag2 ay2 awd2 ata2 awl2 q1 q2 q3 q4
        rcases ih (i + 1) n Y aw2 ah2 nw2 aat2 ag2 ay2 awd2 ata2 awl2 (by omega) (by omega) q1 q2 q3 q4 with ⟨j, aw', ah', nw', aat', ag', ay', awd', ata', awl', s1, s2, s3, s4, s5⟩ | ⟨aw', ah', nw', aat', ag', ay', awd', ata', awl', s1, s2⟩
        · refine Or.inl ⟨j, aw', ah', nw', aat', ag', ay', awd', ata', awl', s1, by omega, s3, s4, fun l h3 h4 => ?_⟩
          by_cases z : l = i
          · subst z; exact no
          · exact s5 l (by omega) h4
        · refine Or.inr ⟨aw', ah', nw', aat', ag', ay', awd', ata', awl', s1, fun l h3 h4 => ?_⟩
          by_cases z : l = i
          · subst z; exact no
          · exact s2 l (by omega) h4
      by_cases z3 : i = 3
      · obtain ⟨aw2, ah2, nw2, aat2, ag2, ay2, awd2, ata2, awl2, e2, a2⟩ := m_asTurned (ov := true) (X := tuX false X) (ok_tu ok) (fun b hb => (hk b hb).1) a1 nw1
        have e2' : f_BargeBasinModel_asTurned 1 (nI (bn C.1)) aw1 ah1 kk nw1 aat1 ag1 ay1 awd1 ata1 awl1 = some (aw2, ah2, nw2, aat2, ag2, ay2, awd2, ata2, awl2) := by rw [← hn]; exact e2
        rw [if_pos z3, ev_b _ e2', un9_ap]
        exact fin (tuX true (tuX false X)) _ _ _ _ _ _ _ _ _ (by rw [gI_s, if_pos z3, hx]) hn hk a2
      · rw [if_neg z3]
        exact fin (tuX false X) _ _ _ _ _ _ _ _ _ (by rw [gI_s, if_neg z3, hx]) hn hk a1
/-- the answer of same -/
def saX (C K : BP) (ans : Int32) : Prop := (smX C K ∧ ans = 1) ∨ (¬ smX C K ∧ orb C K ∧ ans = 2) ∨ (¬ smX C K ∧ ¬ orb C K ∧ ans = 0)
theorem g_orb {C K : BP} (hC : okX C) : orb C K ↔ ∃ j, j < 8 ∧ smX (gI j C) K := by
  have h4 := ok_qI hC 4
  have hM := ok_tu (ov := true) h4
  have sM : smX (tuX true (qI 4 C)) (tuX true C) := sm_tu h4 (q4_sm hC)
  constructor
  · rintro ⟨i, hi, q | q⟩
    · exact ⟨i, by omega, by unfold gI; rw [if_pos hi]; exact q⟩
    · refine ⟨4 + i, by omega, ?_⟩
      unfold gI
      rw [if_neg (by omega), show 4 + i - 4 = i by omega]
      exact sm_trans (sm_qI hM sM i) q
  · rintro ⟨j, hj, q⟩
    unfold gI at q
    by_cases z : j < 4
    · rw [if_pos z] at q; exact ⟨j, z, Or.inl q⟩
    · rw [if_neg z] at q
      exact ⟨j - 4, by omega, Or.inr (sm_trans (sm_symm (ok_qI hM _) (sm_qI hM sM _)) q)⟩
theorem m_same {C K : BP} {k : Nat} {iK kW kH kN kWl kK kA kS kY kG : Nat → Int32} {khas kw kh kn : Int32} {kwl kk kat ks ky kg : Nat → Int32} (hC : okX C) (hK : okX K) (hk4 : k < 4) (kp : kpR K.1 K.2 k iK kW kH kN kWl kK kA kS kY kG) (hr : rfX C.1 C.2 khas kw kh kn kwl kk kat ks ky kg) (st th aw ah : Int32) (nw aat ag ay awd ata awl : Nat → Int32) :
    ∃ ans aw' ah' nw' aat' ag' ay' awd' ata' awl', f_BargeBasinModel_same (nI k) st th khas kw kh kn aw ah kwl kk kat ks ky kg iK kW kH kN kWl kK kA kS kY kG nw aat ag ay awd ata awl = some (ans, 0, 0, aw', ah', nw', aat', ag', ay', awd', ata', awl') ∧ saX C K ans := by
  obtain ⟨aw1, ah1, aat1, ag1, ay1, awd1, ata1, awl1, e1, a1⟩ := m_asItIs hC hr aw ah aat ag ay awd ata awl
  have r1 := hr.1
  have r4 := hr.2.2.2.1
  have r6 := hr.2.2.2.2.2.1
  have k1 := kp.1
  subst r1
  have e3 : (nI k ≤ 3) = (k ≤ 3) := nI_leE (b := 3) (by omega) (by decide)
  unfold f_BargeBasinModel_same
  rw [if_neg (show ¬ (1 : Int32) = 0 by decide), if_neg (nI_nn (by omega)), if_pos (show nI k ≤ 3 by rw [e3]; omega), ev_grdN _ hk4 (by decide), nI_clamp (show k < 2 ^ 31 by omega), k1, if_neg (show ¬ (1 : Int32) = 0 by decide), ev_b _ e1, un8_ap, r4]
  rcases m_sameL (kk := kk) (ks := ks) hC hK hk4 kp 8 0 jN C aw1 ah1 nw aat1 ag1 ay1 awd1 ata1 awl1 (by omega) (by show 8 < 2000000; omega) rfl rfl (fun c hc => ⟨(r6 c hc).1, (r6 c hc).2.1⟩) a1 with ⟨j, aw', ah', nw', aat', ag', ay', awd', ata', awl', s1, s2, s3, s4, s5⟩ | ⟨aw', ah', nw', aat', ag', ay', awd', ata', awl', s1, s2⟩
  · rw [ev_b (x := f_BargeBasinModel_same_L60 (nI k) (nI (bn C.1)) kk ks kW kH kN kWl kK kA kS kY kG jN 0 aw1 ah1 nw aat1 ag1 ay1 awd1 ata1 awl1) _ s1, jsel_l, un10_ap]
    have j0 : (nI j = 0) = (j = 0) := nI_eqL (j := 0) (by omega) (by decide)
    simp only [j0]
    by_cases z : j = 0
    · subst z
      rw [if_pos rfl]
      exact ⟨1, aw', ah', nw', aat', ag', ay', awd', ata', awl', rfl, Or.inl ⟨s4, rfl⟩⟩
    · rw [if_neg z]
      exact ⟨2, aw', ah', nw', aat', ag', ay', awd', ata', awl', rfl, Or.inr (Or.inl ⟨s5 0 (Nat.le_refl _) (by omega), (g_orb hC).mpr ⟨j, s3, s4⟩, rfl⟩)⟩
  · rw [ev_b (x := f_BargeBasinModel_same_L60 (nI k) (nI (bn C.1)) kk ks kW kH kN kWl kK kA kS kY kG jN 0 aw1 ah1 nw aat1 ag1 ay1 awd1 ata1 awl1) _ s1, jsel_r, un9_ap]
    refine ⟨0, aw', ah', nw', aat', ag', ay', awd', ata', awl', rfl, Or.inr (Or.inr ⟨s2 0 (Nat.le_refl _) (by decide), fun z => ?_, rfl⟩)⟩
    obtain ⟨j, j1, j2⟩ := (g_orb hC).mp z
    exact s2 j (Nat.zero_le _) j1 j2
theorem s_same1 {C K : BP} {k a0 : Nat} {shelves : Nat → Option Nat} {cw chh cn : Int32} {cwl ct : Int64} {ck cp cl cg ca cwd chg : Nat → Int32} {cs : Nat → Int64} {dw dh dn : Int32} {dwl dt : Int64} {dk dp dl dg da dwd dhg : Nat → Int32} {ds : Nat → Int64} (hC : okX C) (hK : okX K) (hk4 : k < 4) (hs : shelves k = some a0) (x : chX C.1 C.2 cw chh cn cwl ct ck cp cl cg ca cwd chg cs) (y : chX K.1 K.2 dw dh dn dwl dt dk dp dl dg da dwd dhg ds) (st : Int32) (b1 d1 c1 : Int32) (w1 t1 : Int64) (k1 p1 l1 g1 a1 wd1 hg1 : Nat → Int32) (s1 : Nat → Int64) :
    ∃ ans b1' d1' c1' w1' t1' k1' p1' l1' g1' a1' wd1' hg1' s1', f_BargeBasin_same_sh1 a0 (nI k) st cw chh cn cwl ct ck cp cl cg ca cs b1 d1 c1 w1 t1 k1 p1 l1 g1 a1 wd1 hg1 s1 shelves dw dh dn dwl dt dk dp dl dg da dwd dhg ds = some (ans, 0, b1', d1', c1', w1', t1', k1', p1', l1', g1', a1', wd1', hg1', s1') ∧ saX C K ans := by
  obtain ⟨t, e1, e2⟩ := s_isSame hK hC y x
  obtain ⟨k2, p2, l2, g2, a2, wd2, hg2, s2, e3, y2⟩ := cp_chX hK.1 y b1 d1 c1 w1 t1 k1 p1 l1 g1 a1 wd1 hg1 s1
  obtain ⟨b, q1, q2, q3, q4, q5, q6, q7, q8, q9, q10, e4, e5⟩ := s_isSameTurned hK hC y2 x
  have e6 : (nI k < 4) = (k < 4) := nI_ltE (b := 4) (by omega) (by decide)
  unfold f_BargeBasin_same_sh1 jshS
  rw [show f_BargeBasin_hasNoBasin cw = some 0 by rw [x.1]; exact noBas hC.1, ev_b _ rfl, if_pos rfl, if_neg (nI_nn (by omega)), if_pos (show nI k < 4 by rw [e6]; exact hk4), ev_grdN _ hk4 (by decide), nI_clamp (show k < 2 ^ 31 by omega), if_pos hs, ev_b _ e1]
  cases t with
  | true =>
    rw [if_neg (show ¬ bI true = 0 by decide)]
    exact ⟨1, _, _, _, _, _, _, _, _, _, _, _, _, _, rfl, Or.inl ⟨sm_symm hK (e2.mp rfl), rfl⟩⟩
  | false =>
    have no : ¬ smX C K := fun z => by have := e2.mpr (sm_symm hC z); cases this
    rw [if_pos (show bI false = 0 by decide), ev_b _ e3, un13_ap, ev_b _ e4, un11_ap]
    cases b with
    | true => rw [if_neg (show ¬ bI true = 0 by decide)]; exact ⟨2, _, _, _, _, _, _, _, _, _, _, _, _, _, rfl, Or.inr (Or.inl ⟨no, orb_symm hK hC (e5.mp rfl), rfl⟩)⟩
    | false => rw [if_pos (show bI false = 0 by decide)]; exact ⟨0, _, _, _, _, _, _, _, _, _, _, _, _, _, rfl, Or.inr (Or.inr ⟨no, fun z => (by have := e5.mpr (orb_symm hC hK z); cases this), rfl⟩)⟩
theorem sa_u {C K : BP} {a b : Int32} (h1 : saX C K a) (h2 : saX C K b) : a = b := by
  rcases h1 with ⟨p, e⟩ | ⟨p, q, e⟩ | ⟨p, q, e⟩ <;> rcases h2 with ⟨r, f⟩ | ⟨r, s, f⟩ | ⟨r, s, f⟩ <;> first | exact e.trans f.symm | exact absurd r p | exact absurd p r | exact absurd q s | exact absurd s q
