/-! Orbits; isSame of the class. -/
def qI : Nat → BP → BP
  | 0, X => X
  | i + 1, X => tuX false (qI i X)
theorem ok_qI {X : BP} (h : okX X) : ∀ i, okX (qI i X)
  | 0 => h
  | i + 1 => ok_tu (ok_qI h i)
theorem sm_qI {X Y : BP} (hX : okX X) (h : smX X Y) : ∀ i, smX (qI i X) (qI i Y)
  | 0 => h
  | i + 1 => sm_tu (ok_qI hX i) (sm_qI hX h i)
theorem qI_add (X : BP) (j : Nat) : ∀ i, qI (i + j) X = qI i (qI j X)
  | 0 => by rw [Nat.zero_add]; rfl
  | i + 1 => by
    rw [show i + 1 + j = (i + j) + 1 by omega]
    show tuX false (qI (i + j) X) = tuX false (qI i (qI j X))
    rw [qI_add X j i]
theorem q4_sm {X : BP} (h : okX X) : smX (qI 4 X) X := q4_id h
theorem rf_i {X : BP} (h : okX X) : ∀ i, smX (qI i (tuX true (qI i (tuX true X)))) X
  | 0 => mm_id h
  | i + 1 => by
    have hm := ok_tu (ov := true) h
    have ho := ok_qI hm i
    have e : qI (i + 1) (tuX true (qI (i + 1) (tuX true X))) = qI i (tuX false (tuX true (tuX false (qI i (tuX true X))))) := qI_add _ 1 i
    rw [e]
    exact sm_trans (sm_qI (ok_tu (ok_tu (ok_tu ho))) (qmq_m ho) i) (rf_i h i)
def orb (X Y : BP) : Prop := ∃ i, i < 4 ∧ (smX (qI i X) Y ∨ smX (qI i (tuX true X)) Y)
theorem orb_symm {X Y : BP} (hX : okX X) (hY : okX Y) (h : orb X Y) : orb Y X := by
  obtain ⟨i, hi, q | q⟩ := h
  · have s := sm_symm (ok_qI hX i) q
    by_cases z : i = 0
    · subst z; exact ⟨0, by decide, Or.inl s⟩
    · refine ⟨4 - i, by omega, Or.inl ?_⟩
      refine sm_trans (sm_qI hY s (4 - i)) ?_
      rw [← qI_add, show 4 - i + i = 4 by omega]
      exact q4_sm hX
  · have hm := ok_tu (ov := true) hX
    have s := sm_symm (ok_qI hm i) q
    exact ⟨i, hi, Or.inr (sm_trans (sm_qI (ok_tu hY) (sm_tu hY s) i) (rf_i hX i))⟩
theorem like_fb {X Y : BP} {b c f : Nat} (l : likeA X b Y c) : fbA X.1 X.2 b f = fbA Y.1 Y.2 c f := by
  obtain ⟨l1, l2, l3, l4, -⟩ := l
  unfold fbA xW xH
  rw [l1, l2, l3, l4]
theorem sm_tk1 {X Y : BP} {f : Nat} (h : smX X Y) (e : tkA X.1 X.2 f = true) : tkA Y.1 Y.2 f = true := by
  obtain ⟨b, hb, q⟩ := tkA_t.mp e
  obtain ⟨c, hc, l⟩ := h.2.2.2.2 b hb
  exact tkA_t.mpr ⟨c, hc, by rw [← like_fb l]; exact q⟩
theorem sm_tk {X Y : BP} {f : Nat} (hX : okX X) (h : smX X Y) : tkA X.1 X.2 f = tkA Y.1 Y.2 f := by
  rw [Bool.eq_iff_iff]
  exact ⟨sm_tk1 h, sm_tk1 (sm_symm hX h)⟩
theorem s_firstAt {B : Bas} {P : Nat → Nat} {p : Nat} {kk ka kw kh kp : Nat → Int32} {ks : Nat → Int64} (h : basOk B) (hs : stOk B P) (hc : chB B kk ka kw kh ks) (hp : chP B P kp) (hp6 : p < 64) : f_Chart_firstIn (jlshl 1 (nI p)) (-1) (nI (bn B)) kp ks = some (oI (whoN (fbA B P) (bn B) p)) := by
  obtain ⟨o, e1, f1⟩ := s_firstIn (x := jlshl 1 (nI p)) (but := none) h hs.1 hc hp (fun b hb => by cases hb)
  have f2 : fstI (bn B) (fun b => fbA B P b p) o := by
    have : (fun b => decide (¬ (none : Option Nat) = some b) && anyF (fun f => fbA B P b f && tb (jlshl 1 (nI p)) f)) = (fun b => fbA B P b p) := by
      funext b
      rw [Bool.eq_iff_iff, Bool.and_eq_true, anyF_t]
      constructor
      · rintro ⟨-, f, hf, q⟩
        rw [tb_one hp6, Bool.and_eq_true, decide_eq_true_eq] at q
        rw [← q.2]; exact q.1
      · intro q
        exact ⟨by simp, p, hp6, by rw [tb_one hp6, q]; simp⟩
    rw [this] at f1
    exact f1
  rw [fst_u f2 (fst_who hs.2.1 hp6)] at e1
  exact e1
theorem bI_eq {a b : Bool} : (bI a = bI b) = (a = b) := by
  apply propext
  cases a <;> cases b <;> simp [bI]
theorem s_isTwin {X Y : BP} {b c : Nat} {cw chh cn : Int32} {cwl ct : Int64} {ck cp cl cg ca cwd chg : Nat → Int32} {cs : Nat → Int64} {dw dh dn : Int32} {dwl dt : Int64} {dk dp dl dg da dwd dhg : Nat → Int32} {ds : Nat → Int64} (hX : okX X) (hY : okX Y) (x : chX X.1 X.2 cw chh cn cwl ct ck cp cl cg ca cwd chg cs) (y : chX Y.1 Y.2 dw dh dn dwl dt dk dp dl dg da dwd dhg ds) (hb : b < bn X.1) (hc : c < bn Y.1) :
    ∃ t, f_Chart_isTwin (nI b) (nI c) ck cp cl cg ca dk dp dl dg da = some (bI t) ∧ (t = true ↔ likeA X b Y c) := by
  obtain ⟨a1, a2, a3, a4, a5, a6, a7, a8⟩ := basOk_wh hX.1 hb
  obtain ⟨b1, b2, b3, b4, b5, b6, b7, b8⟩ := basOk_wh hY.1 hc
  obtain ⟨x1, x2, x3, x4, x5, x6, x7, x8, x9⟩ := x
  obtain ⟨y1, y2, y3, y4, y5, y6, y7, y8, y9⟩ := y
  have p1 := ins_64 hX.1 hX.2.1.1.1 hb
  have p2 := ins_64 hY.1 hY.2.1.1.1 hc
  obtain ⟨l1, -, -⟩ := hX.1.2.2.2.2.2.1 b hb
  obtain ⟨l2, -, -⟩ := hY.1.2.2.2.2.2.1 c hc
  have s1 : bS X.1 b < 5 := by unfold lenOk at l1; omega
  have s2 : bS Y.1 c < 5 := by unfold lenOk at l2; omega
  unfold f_Chart_isTwin
  simp only [ev_grdN _ a1 (show 12 < 2 ^ 31 by decide), ev_grdN _ b1 (show 12 < 2 ^ 31 by decide), cl_nI a1, cl_nI b1, x7 b hb, y7 c hc, (x6 b hb).1, (y6 c hc).1, x8 b hb, y8 c hc, (x6 b hb).2.1, (y6 c hc).2.1]
  have e1 : (nI (X.2 b) = nI (Y.2 c)) = (X.2 b = Y.2 c) := nI_eqL (by omega) (by omega)
  have e2 : (nI (bK X.1 b) = nI (bK Y.1 c)) = (bK X.1 b = bK Y.1 c) := nI_eqL (by omega) (by omega)
  have e3 : (nI (bS X.1 b) = nI (bS Y.1 c)) = (bS X.1 b = bS Y.1 c) := nI_eqL (by omega) (by omega)
  have e4 : (bI (decide (bY X.1 b = 1)) = bI (decide (bY Y.1 c = 1))) = (bY X.1 b = bY Y.1 c) := by
    rw [bI_eq, decide_eq_decide]
    exact propext ⟨fun z => by omega, fun z => by rw [z]⟩
  have e5 : (nI (bK X.1 b) = 5) = (bK X.1 b = 5) := nI_eqL (j := 5) (by omega) (by decide)
  simp only [e1, e2, e3, e4, e5]
  by_cases q1 : X.2 b = Y.2 c
  · rw [if_pos q1]
    by_cases q2 : bK X.1 b = bK Y.1 c
    · rw [if_pos q2]
      by_cases q3 : bS X.1 b = bS Y.1 c
      · rw [if_pos q3]
        by_cases q4 : bY X.1 b = bY Y.1 c
        · rw [if_pos q4]
          by_cases q5 : bK X.1 b = 5
          · have g1 := hX.1.2.2.2.2.2.2 b hb q5
            have g2 := hY.1.2.2.2.2.2.2 c hc (by rw [← q2]; exact q5)
            have e6 : (nI (bG X.1 b) = nI (bG Y.1 c)) = (bG X.1 b = bG Y.1 c) := nI_eqL (by omega) (by omega)
            rw [if_pos q5, x9 b hb q5, y9 c hc (by rw [← q2]; exact q5)]
            simp only [e6]
            by_cases q6 : bG X.1 b = bG Y.1 c
            · rw [if_pos q6]; exact ⟨true, rfl, fun _ => ⟨q1, q2, q3, q4, fun _ => q6⟩, fun _ => rfl⟩
            · rw [if_neg q6]; exact ⟨false, rfl, fun z => by (cases z), fun l => absurd (l.2.2.2.2 q5) q6⟩
          · rw [if_neg q5]; exact ⟨true, rfl, fun _ => ⟨q1, q2, q3, q4, fun z => absurd z q5⟩, fun _ => rfl⟩
        · rw [if_neg q4]; exact ⟨false, rfl, fun z => by (cases z), fun l => absurd l.2.2.2.1 q4⟩
      · rw [if_neg q3]; exact ⟨false, rfl, fun z => by (cases z), fun l => absurd l.2.2.1 q3⟩
    · rw [if_neg q2]; exact ⟨false, rfl, fun z => by (cases z), fun l => absurd l.2.1 q2⟩
  · rw [if_neg q1]; exact ⟨false, rfl, fun z => by (cases z), fun l => absurd l.1 q1⟩
theorem s_isSame {X Y : BP} {cw chh cn : Int32} {cwl ct : Int64} {ck cp cl cg ca cwd chg : Nat → Int32} {cs : Nat → Int64} {dw dh dn : Int32} {dwl dt : Int64} {dk dp dl dg da dwd dhg : Nat → Int32} {ds : Nat → Int64} (hX : okX X) (hY : okX Y) (x : chX X.1 X.2 cw chh cn cwl ct ck cp cl cg ca cwd chg cs) (y : chX Y.1 Y.2 dw dh dn dwl dt dk dp dl dg da dwd dhg ds) :
    ∃ t, f_Chart_isSame cw chh cn cwl ct ck cp cl cg ca dw dh dn dwl dt dk dp dl dg da ds = some (bI t) ∧ (t = true ↔ smX X Y) := by
  have x0 := x
  have y0 := y
  obtain ⟨x1, x2, x3, x4, x5, x6, x7, x8, x9⟩ := x
  obtain ⟨y1, y2, y3, y4, y5, y6, y7, y8, y9⟩ := y
  subst x1; subst x2; subst x3; subst y1; subst y2; subst y3
  have n12 := hX.1.2.2.2.2.1
  have m12 := hY.1.2.2.2.2.1
  have wX := hX.1.2.1
  have wY := hY.1.2.1
  have vX := hX.1.2.2.2.1
  have vY := hY.1.2.2.2.1
  have e1 : (nI (bw X.1) = nI (bw Y.1)) = (bw X.1 = bw Y.1) := nI_eqL (by omega) (by omega)
  have e2 : (nI (bh X.1) = nI (bh Y.1)) = (bh X.1 = bh Y.1) := nI_eqL (by omega) (by omega)
  have e3 : (nI (bn X.1) = nI (bn Y.1)) = (bn X.1 = bn Y.1) := nI_eqL (by omega) (by omega)
  have loop : ∀ (r b n : Nat), b + r = bn X.1 → r < n → ∃ t, f_Chart_isSame_L61 (nI (bn X.1)) ck cp cl cg ca (nI (bn Y.1)) dk dp dl dg da ds n (nI b) = some (if t = true then .inr () else .inl ()) ∧ (t = true ↔ ∀ c, b ≤ c → c < bn X.1 → ∃ d, d < bn Y.1 ∧ likeA X c Y d) := by
    intro r
    induction r with
    | zero =>
      intro b n h1 h2
      obtain ⟨n, rfl⟩ : ∃ z, n = z + 1 := ⟨n - 1, by omega⟩
      have e : b = bn X.1 := by omega
      subst e
      exact ⟨true, by rw [f_Chart_isSame_L61, if_pos (nI_le (Nat.le_refl _) (by omega))]; rfl, fun _ c h3 h4 => by omega, fun _ => rfl⟩
    | succ r ih =>
      intro b n h1 h2
      obtain ⟨n, rfl⟩ : ∃ z, n = z + 1 := ⟨n - 1, by omega⟩
      have hb : b < bn X.1 := by omega
      have p1 := ins_64 hX.1 hX.2.1.1.1 hb
      have a1 : b < 12 := by omega
      rw [f_Chart_isSame_L61, if_neg (nI_ge hb (by omega)), ev_grdN _ a1 (by decide), cl_nI a1, x7 b hb, ev_b _ (s_firstAt hY.1 hY.2.1.1 y6 y7 p1)]
      have key : ∀ d, d < bn Y.1 → likeA X b Y d → whoN (fbA Y.1 Y.2) (bn Y.1) (X.2 b) = some d := fun d hd l => (whoN_some hY.2.1.1.2.1 p1).mpr ⟨hd, by rw [← like_fb l]; exact fb_own hX.1 hb⟩
      cases eo : whoN (fbA Y.1 Y.2) (bn Y.1) (X.2 b) with
      | none =>
        rw [if_pos (show oI none < 0 by decide)]
        refine ⟨false, rfl, fun z => by (cases z), fun z => ?_⟩
        obtain ⟨d, hd, l⟩ := z b (Nat.le_refl _) hb
        rw [key d hd l] at eo; cases eo
      | some c =>
        have hc := (whoN_mem eo).1
        obtain ⟨t, t1, t2⟩ := s_isTwin hX hY x0 y0 hb hc
        rw [show oI (some c) = nI c from rfl, if_neg (nI_nn (by omega)), ev_b _ t1]
        cases t with
        | false =>
          rw [if_pos (show bI false = 0 by decide)]
          refine ⟨false, rfl, fun z => by (cases z), fun z => ?_⟩
          obtain ⟨d, hd, l⟩ := z b (Nat.le_refl _) hb
          have k := key d hd l
          rw [eo] at k
          cases k
          exact t2.mpr l
        | true =>
          rw [if_neg (show ¬ bI true = 0 by decide), ev_bnd, nI_1]
          obtain ⟨u, u1, u2⟩ := ih (b + 1) n (by omega) (by omega)
          refine ⟨u, u1, u2.trans ⟨fun z d h3 h4 => ?_, fun z d h3 h4 => z d (by omega) h4⟩⟩
          by_cases e : d = b
          · subst e; exact ⟨c, hc, t2.mp rfl⟩
          · exact z d (by omega) h4
  unfold f_Chart_isSame
  simp only [e1, e2, e3, cmpE]
  by_cases q1 : bw X.1 = bw Y.1
  · rw [if_pos q1]
    by_cases q2 : bh X.1 = bh Y.1
    · rw [if_pos q2]
      by_cases q3 : cwl = dwl
      · rw [if_pos q3]
        by_cases q4 : ct = dt
        · rw [if_pos q4]
          by_cases q5 : bn X.1 = bn Y.1
          · rw [if_pos q5]
            obtain ⟨t, t1, t2⟩ := loop (bn X.1) 0 jN (by omega) (by show bn X.1 < 2000000; omega)
            rw [ev_b (x := f_Chart_isSame_L61 (nI (bn X.1)) ck cp cl cg ca (nI (bn Y.1)) dk dp dl dg da ds jN 0) _ t1]
            refine ⟨t, by cases t <;> rfl, t2.trans ⟨fun z => ⟨q1, q2, q5, fun f hf => by rw [← x4 f hf, ← y4 f hf, q3], fun b hb => z b (Nat.zero_le _) hb⟩, fun z b _ hb => z.2.2.2.2 b hb⟩⟩
          · rw [if_neg q5]; exact ⟨false, rfl, fun z => by (cases z), fun z => absurd z.2.2.1 q5⟩
        · rw [if_neg q4]; exact ⟨false, rfl, fun z => by (cases z), fun z => absurd (tb_ext fun f hf => by rw [x5 f hf, y5 f hf, sm_tk hX z]) q4⟩
      · rw [if_neg q3]; exact ⟨false, rfl, fun z => by (cases z), fun z => absurd (tb_ext fun f hf => by rw [x4 f hf, y4 f hf, z.2.2.2.1 f hf]) q3⟩
    · rw [if_neg q2]; exact ⟨false, rfl, fun z => by (cases z), fun z => absurd z.2.1 q2⟩
  · rw [if_neg q1]; exact ⟨false, rfl, fun z => by (cases z), fun z => absurd z.1 q1⟩
