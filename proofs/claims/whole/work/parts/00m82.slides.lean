/-! Sliding: the class's slides and tellWhy, the reference's slides. -/
theorem nxt32 {B : Bas} {P : Nat → Nat} {b d s : Nat} (h : basOk B) (hs : stOk B P) (hb : b < bn B) (hd : d < 4) (hk : s ≤ room B P b d false) : nI (P b) + nI s * sv_STEP d = nI (nxtk d (P b) s) := by
  have r7 := room_le (B := B) (P := P) (b := b) (d := d) (bk := false)
  rw [(step32 (P b) (ins_64 h hs.1 hb) s (by omega) d hd).1, ← ofInt_nI]
  refine congrArg Int32.ofInt ?_
  have := (room_st (bk := false) h hs hb hd hk).2
  unfold stI
  omega
theorem mv_st {B : Bas} {P : Nat → Nat} {b d s : Nat} (h : basOk B) (hP : stC B P) (hb : b < bn B) (hd : d < 4) (hk : s ≤ room B P b d false) : stC B (updN P b (nxtk d (P b) s)) :=
  ⟨(room_st (bk := false) h hP.1 hb hd hk).1, gl_mv (bk := false) h hP hb hd hk⟩
theorem s_slides {B : Bas} {P : Nat → Nat} {b d s D : Nat} {T : List Nat} {cw chh cn : Int32} {cwl ct : Int64} {ck cp cl cg ca cwd chg : Nat → Int32} {cs : Nat → Int64} {lf ld lu : Int32} {lm : Nat → Int32} (h : basOk B) (hP : stC B P) (hc : chX B P cw chh cn cwl ct ck cp cl cg ca cwd chg cs) (h1 : T.length ≤ 60) (h2 : D ≤ T.length) (hl : lgC T D lf ld lu lm) (hb : b < bn B) (hd : d < 4) (hs7 : s ≤ 7) :
    (s ≤ room B P b d false → ∃ kt' kp' lf' ld' lu' lm', f_BargeBasin_slides (nI b) (nI d) (nI s) cw chh cwl ct ck cp ca cwd chg cs lf ld lu lm = some (1, kt', kp', lf', ld', lu', lm') ∧ chT B (updN P b (nxtk d (P b) s)) kt' ∧ chP B (updN P b (nxtk d (P b) s)) kp' ∧ lgC (nxT T D (32 * b + 8 * d + s)) (nxD D) lf' ld' lu' lm') ∧
    (¬ s ≤ room B P b d false → f_BargeBasin_slides (nI b) (nI d) (nI s) cw chh cwl ct ck cp ca cwd chg cs lf ld lu lm = some (0, ct, cp, lf, ld, lu, lm)) := by
  obtain ⟨c1, c2, c3, c4, c5, c6, c7, c8, c9⟩ := hc
  subst c1; subst c2; subst c3
  have n12 := h.2.2.2.2.1
  have r7 := room_le (B := B) (P := P) (b := b) (d := d) (bk := false)
  have sf := s_stepsFrom (bk := false) h hP.1 c6 c7 c5 c4 hb hd
  rw [show bI false = (0 : Int32) from rfl] at sf
  constructor
  · intro hk
    obtain ⟨kt', e1, t1, p1⟩ := s_shift h hP.1 (mv_st h hP hb hd hk).1 c6 c7 c5 hb hd (nxt32 h hP.1 hb hd hk)
    obtain ⟨lf', ld', lu', lm', e2, q2⟩ := nx_lgC (c := 32 * b + 8 * d + s) h1 h2 hl
    refine ⟨kt', _, lf', ld', lu', lm', ?_, t1, p1, q2⟩
    unfold f_BargeBasin_slides
    rw [ev_b _ sf, if_pos (nI_le hk (by omega)), ev_b _ e1, un2_ap, ev_b _ (s_moveOf b (by omega) d hd s (by omega)), ev_b _ e2, un4_ap]
  · intro hk
    unfold f_BargeBasin_slides
    rw [ev_b _ sf, if_neg (nI_ge (by omega) (by omega))]
/-- who hinders where the way ends -/
def whoW (B : Bas) (P : Nat → Nat) (b d q r : Nat) (o : Option Nat) : Prop :=
  (r = 4 → fstI (bn B) (fun c => decide (¬ some b = some c) && anyF (fun f => fbA B P c f && inB (nxt d q % 8) (nxt d q / 8) (xW B b) (xH B b) f)) o) ∧
  (r = 5 → fstI (bn B) (fun c => decide (¬ some b = some c) && anyF (fun f => fbA B P c f && nextTo q f)) o) ∧ (r ≠ 4 → r ≠ 5 → o = none)
theorem whoW_u {B : Bas} {P : Nat → Nat} {b d q r : Nat} {o o' : Option Nat} (h1 : whoW B P b d q r o) (h2 : whoW B P b d q r o') : o = o' := by
  by_cases e4 : r = 4
  · exact fst_u (h1.1 e4) (h2.1 e4)
  · by_cases e5 : r = 5
    · exact fst_u (h1.2.1 e5) (h2.2.1 e5)
    · rw [h1.2.2 e4 e5, h2.2.2 e4 e5]
theorem s_tellWhy {B : Bas} {P : Nat → Nat} {b d : Nat} {cw chh cn : Int32} {cwl ct : Int64} {ck cp cl cg ca cwd chg : Nat → Int32} {cs : Nat → Int64} (h : basOk B) (hP : stC B P) (hc : chX B P cw chh cn cwl ct ck cp cl cg ca cwd chg cs) (hb : b < bn B) (hd : d < 4) (w1 w2 w3 : Int32) :
    ∃ o, f_BargeBasin_tellWhy (nI b) (nI d) w1 w2 w3 cw chh cn cwl ct ck cp ca cwd chg cs = some (nI (room B P b d false + 1), nI (hnd B P b d (nxtk d (P b) (room B P b d false)) false), oI o) ∧ whoW B P b d (nxtk d (P b) (room B P b d false)) (hnd B P b d (nxtk d (P b) (room B P b d false)) false) o := by
  obtain ⟨c1, c2, c3, c4, c5, c6, c7, c8, c9⟩ := hc
  subst c1; subst c2; subst c3
  obtain ⟨a1, a2, a3, a4, a5, a6, a7, a8⟩ := basOk_wh h hb
  have n12 := h.2.2.2.2.1
  have r7 := room_le (B := B) (P := P) (b := b) (d := d) (bk := false)
  have sf := s_stepsFrom (bk := false) h hP.1 c6 c7 c5 c4 hb hd
  rw [show bI false = (0 : Int32) from rfl] at sf
  have q64 := room_64 h hP.1 hb hd (Nat.le_refl (room B P b d false))
  have nx := nxt32 h hP.1 hb hd (Nat.le_refl _)
  have sh := s_hnd (bk := false) h hP.1 c6 c7 c5 c4 hb hd q64
  rw [show bI false = (0 : Int32) from rfl] at sh
  have lt := hnd_lt (B := B) (P := P) (b := b) (d := d) (q := nxtk d (P b) (room B P b d false)) (bk := false)
  have ev : ∀ o, f_Chart_hinderer (nI b) (nI (nxtk d (P b) (room B P b d false))) (nI d) (nI (hnd B P b d (nxtk d (P b) (room B P b d false)) false)) (nI (bn B)) cp cs = some o → f_BargeBasin_tellWhy (nI b) (nI d) w1 w2 w3 (nI (bw B)) (nI (bh B)) (nI (bn B)) cwl ct ck cp ca cwd chg cs = some (nI (room B P b d false + 1), nI (hnd B P b d (nxtk d (P b) (room B P b d false)) false), o) := by
    intro o ho
    unfold f_BargeBasin_tellWhy
    rw [ev_b _ sf, ev_grdN _ a1 (by decide), ev_grdN _ hd (by decide), ev_bnd, ev_bnd, cl_nI a1, nI_clamp (show d < 2 ^ 31 by omega), c7 b hb, nx, nI_1, ev_b _ sh, ev_b _ ho]
  generalize hq : nxtk d (P b) (room B P b d false) = q at *
  generalize hr : hnd B P b d q false = r at *
  by_cases e4 : r = 4
  · have gi : goIn (bw B) (bh B) (xW B b) (xH B b) d q = true := by
      subst e4
      unfold hnd hindA at hr
      by_cases a : (bK B b = 1 ∨ bK B b = 5) ∧ ¬ (bY B b = 1 ↔ d % 2 = 0)
      · rw [if_pos a] at hr; cases hr
      · rw [if_neg a] at hr
        by_cases g : goIn (bw B) (bh B) (xW B b) (xH B b) d q = false
        · rw [if_pos g] at hr; cases hr
        · simpa using g
    obtain ⟨g1, g2, g3, g4, g5⟩ := goIn_t h.2.1 h.2.2.2.1 a4 a6 hd gi
    obtain ⟨o, e, f⟩ := s_firstIn (x := jlshl (shp (xW B b) (xH B b)) (nI (nxt d q))) (but := some b) h hP.1.1 c6 c7 (fun c hc => by cases hc; exact a1)
    have f' : fstI (bn B) (fun c => decide (¬ some b = some c) && anyF (fun f => fbA B P c f && inB (nxt d q % 8) (nxt d q / 8) (xW B b) (xH B b) f)) o := by
      have : (fun c => decide (¬ some b = some c) && anyF (fun f => fbA B P c f && tb (jlshl (shp (xW B b) (xH B b)) (nI (nxt d q))) f)) = (fun c => decide (¬ some b = some c) && anyF (fun f => fbA B P c f && inB (nxt d q % 8) (nxt d q / 8) (xW B b) (xH B b) f)) := by
        funext c
        rw [anyF_cg (fun f hf => by rw [shp_at g1 a5 a7 (by have := h.2.1; omega) hf])]
      rw [this] at f
      exact f
    refine ⟨o, ev _ ?_, fun _ => f', fun z => by omega, fun z => absurd e4 z⟩
    unfold f_Chart_hinderer
    rw [if_pos (show nI r = 4 by rw [e4]; rfl), ev_grdN _ a1 (by decide), ev_grdN _ hd (by decide), cl_nI a1, nI_clamp (show d < 2 ^ 31 by omega), (c6 b hb).2.2.2.2, geo_s q q64 d hd (by omega) (by omega), ev_b _ (show f_Chart_firstIn (jlshl (shp (xW B b) (xH B b)) (nI (nxt d q))) (nI b) (nI (bn B)) cp cs = _ from e)]
  · by_cases e5 : r = 5
    · obtain ⟨x, hx, bx⟩ := s_beside q q64
      obtain ⟨o, e, f⟩ := s_firstIn (x := x) (but := some b) h hP.1.1 c6 c7 (fun c hc => by cases hc; exact a1)
      have f' : fstI (bn B) (fun c => decide (¬ some b = some c) && anyF (fun f => fbA B P c f && nextTo q f)) o := by
        have : (fun c => decide (¬ some b = some c) && anyF (fun f => fbA B P c f && tb x f)) = (fun c => decide (¬ some b = some c) && anyF (fun f => fbA B P c f && nextTo q f)) := by
          funext c
          rw [anyF_cg (fun f hf => by rw [bx f hf])]
        rw [this] at f
        exact f
      refine ⟨o, ev _ ?_, fun z => by omega, fun _ => f', fun _ z => absurd e5 z⟩
      unfold f_Chart_hinderer
      rw [if_neg (show ¬ nI r = 4 by rw [e5]; decide), if_pos (show nI r = 5 by rw [e5]; rfl), ev_b _ hx, ev_b _ (show f_Chart_firstIn x (nI b) (nI (bn B)) cp cs = _ from e)]
    · refine ⟨none, ev _ ?_, fun z => absurd z e4, fun z => absurd z e5, fun _ _ => rfl⟩
      unfold f_Chart_hinderer
      rw [if_neg (show ¬ nI r = 4 from fun z => e4 ((nI_eq (b := 4) (by omega) (by decide)).mp z)), if_neg (show ¬ nI r = 5 from fun z => e5 ((nI_eq (b := 5) (by omega) (by decide)).mp z))]; rfl
/-- with b elsewhere the same others hinder -/
theorem fst_upd {B : Bas} {P : Nat → Nat} {b q : Nat} {A : Nat → Bool} : (fun c => decide (¬ some b = some c) && anyF (fun f => fbA B (updN P b q) c f && A f)) = (fun c => decide (¬ some b = some c) && anyF (fun f => fbA B P c f && A f)) := by
  funext c
  by_cases e : c = b
  · subst e; simp
  · rw [anyF_cg (fun f hf => by rw [fb_un e])]
theorem m_who {B : Bas} {P : Nat → Nat} {b d : Nat} {kwl kk ks ky kwho kh : Nat → Int32} (h : basOk B) (hs : stOk B P) (hr : rfB B kk ks ky) (ho : rfO B P kwho) (hp : chP B P kh) (hb : b < bn B) (hd : d < 4) :
    (hnd B P b d (P b) false = 5 → ∃ o, f_BargeBasinModel_beside (nI b) (nI (bw B)) (nI (bh B)) kwho kh = some (oI o) ∧ fstI (bn B) (fun c => decide (¬ some b = some c) && anyF (fun f => fbA B P c f && nextTo (P b) f)) o) ∧
    (hnd B P b d (P b) false = 4 → ∃ o, f_BargeBasinModel_least (nI b) (nI d) kk ks ky kwho kh = some (oI o) ∧ fstI (bn B) (fun c => decide (¬ some b = some c) && anyF (fun f => fbA B P c f && inB (nxt d (P b) % 8) (nxt d (P b) / 8) (xW B b) (xH B b) f)) o) := by
  obtain ⟨a1, a2, a3, a4, a5, a6, a7, a8⟩ := basOk_wh h hb
  obtain ⟨r1, r2, r3⟩ := hr b hb
  have n12 := h.2.2.2.2.1
  have p64 := ins_64 h hs.1 hb
  have w12 : ∀ f c, whoN (fbA B P) (bn B) f = some c → c < 12 := fun f c e => by have := whoN_mem e; omega
  have gi : hnd B P b d (P b) false = 4 ∨ hnd B P b d (P b) false = 5 → goIn (bw B) (bh B) (xW B b) (xH B b) d (P b) = true ∧ (hnd B P b d (P b) false = 5 → bK B b = 4) ∧ (hnd B P b d (P b) false = 4 → anyF (fun f => inB (nxt d (P b) % 8) (nxt d (P b) / 8) (xW B b) (xH B b) f && otA B P b f) = true) := by
    unfold hnd hindA
    by_cases a : (bK B b = 1 ∨ bK B b = 5) ∧ ¬ (bY B b = 1 ↔ d % 2 = 0)
    · rw [if_pos a]; intro z; omega
    · rw [if_neg a]
      by_cases g : goIn (bw B) (bh B) (xW B b) (xH B b) d (P b) = false
      · rw [if_pos g]; intro z; omega
      · rw [if_neg g]
        by_cases h3 : anyF (fun f => inB (nxt d (P b) % 8) (nxt d (P b) / 8) (xW B b) (xH B b) f && bwl B f) = true
        · rw [if_pos h3]; intro z; omega
        · rw [if_neg h3]
          by_cases h4 : anyF (fun f => inB (nxt d (P b) % 8) (nxt d (P b) / 8) (xW B b) (xH B b) f && otA B P b f) = true
          · rw [if_pos h4]; intro _; exact ⟨by simpa using g, fun z => by omega, fun _ => h4⟩
          · rw [if_neg h4]
            by_cases h5 : bK B b = 4 ∧ anyF (fun f => nextTo (if false = true then nxt d (P b) else P b) f && otA B P b f) = true
            · rw [if_pos h5]; intro _; exact ⟨by simpa using g, fun _ => h5.1, fun z => by omega⟩
            · rw [if_neg h5]; intro z; omega
  constructor
  · intro e
    obtain ⟨-, k4, -⟩ := gi (Or.inr e)
    obtain ⟨w1, w2⟩ := a8 (k4 e)
    refine ⟨_, m_beside a1 p64 h.2.1 h.2.2.2.1 (hp b hb) ho w12, bes_fst h hs p64 ?_⟩
    intro f hf hn e'
    have m := (whoN_mem e').2
    simp only [fbA, w1, w2, inB, Bool.and_eq_true, decide_eq_true_eq] at m
    simp only [nextTo, decide_eq_true_eq] at hn
    omega
  · intro e
    obtain ⟨g, -, an⟩ := gi (Or.inl e)
    obtain ⟨g1, g2, g3, g4, g5⟩ := goIn_t h.2.1 h.2.2.2.1 a4 a6 hd g
    have w8 := h.2.1
    have h8 := h.2.2.2.1
    have ex : dxN d (P b) = nxt d (P b) % 8 := by unfold dxN; omega
    have ey : dyN d (P b) = nxt d (P b) / 8 := by unfold dyN; omega
    obtain ⟨m, e1, q1, q2, q3⟩ := m_leL39 (X := nxt d (P b) % 8) (Y := nxt d (P b) / 8) a1 (m_wide a1 r1 r2 r3 a2 a3) (m_tall a1 r1 r2 r3 a2 a3) ho w12 (show nxt d (P b) % 8 + xW B b ≤ 8 by omega) (show nxt d (P b) / 8 + xH B b ≤ 8 by omega) (xH B b) (nxt d (P b) / 8) jN 12 rfl (by show xH B b < 2000000; omega) (Nat.le_refl _)
    obtain ⟨f, hf, y⟩ := anyF_t.mp (an e)
    rw [Bool.and_eq_true, otA_t] at y
    obtain ⟨y1, c, c1, c2, c3⟩ := y
    have inb := y1
    simp only [inB, Bool.and_eq_true, decide_eq_true_eq] at inb
    have wf : whoN (fbA B P) (bn B) (f % 8 + 8 * (f / 8)) = some c := by
      rw [Nat.mod_add_div]; exact (whoN_some hs.2.1 hf).mpr ⟨c1, c3⟩
    have mc := q3 (f / 8) (f % 8) c (by omega) (show f / 8 < nxt d (P b) / 8 + xH B b by omega) (by omega) (show f % 8 < nxt d (P b) % 8 + xW B b by omega) wf c2
    refine ⟨some m, ?_, ?_, fun z => by cases z⟩
    · unfold f_BargeBasinModel_least
      rw [ev_grdN _ a1 (by decide), ev_div _ (by decide), ev_b _ (m_right d hd), ev_bnd, ev_grdN _ a1 (by decide), ev_div _ (by decide), ev_b _ (m_down d hd), ev_bnd, cl_nI a1, hp b hb, geo_r8 (by omega), geo_d8 (by omega), geo_rx _ p64 d hd (by omega), geo_ry _ p64 d hd (by omega), ex, ey, ev_b _ (show f_BargeBasinModel_least_L39 (nI b) (nI (nxt d (P b) % 8)) (nI (nxt d (P b) / 8)) kk ks ky kwho jN 12 (nI (nxt d (P b) / 8)) = _ from e1)]
      rfl
    · intro c' hc'
      cases hc'
      rcases q2 with z | ⟨z, x, z1, z2, x1, x2, x3, x4⟩
      · omega
      · have mm := whoN_mem x3
        have z2' : z < nxt d (P b) / 8 + xH B b := z2
        have x2' : x < nxt d (P b) % 8 + xW B b := x2
        refine ⟨mm.1, ?_, ?_⟩
        · rw [Bool.and_eq_true, anyF_t]
          refine ⟨by rw [decide_eq_true_eq]; intro q; cases q; exact x4 rfl, x + 8 * z, by omega, ?_⟩
          rw [mm.2, Bool.true_and]
          simp only [inB, Bool.and_eq_true, decide_eq_true_eq]
          omega
        · intro a ha
          rw [← Bool.not_eq_true]
          intro q
          rw [Bool.and_eq_true, anyF_t, decide_eq_true_eq] at q
          obtain ⟨qa, f', hf', q'⟩ := q
          rw [Bool.and_eq_true] at q'
          have inb' := q'.2
          simp only [inB, Bool.and_eq_true, decide_eq_true_eq] at inb'
          have := q3 (f' / 8) (f' % 8) a (by omega) (show f' / 8 < nxt d (P b) / 8 + xH B b by omega) (by omega) (show f' % 8 < nxt d (P b) % 8 + xW B b by omega) (by rw [Nat.mod_add_div]; exact (whoN_some hs.2.1 hf').mpr ⟨by omega, q'.1⟩) (fun z => qa (by rw [z]))
          omega
