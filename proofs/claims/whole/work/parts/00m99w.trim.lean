/-! trim: what both sides ask of a basin. -/
theorem bits_ex (p : Nat → Bool) : ∃ x : Int64, ∀ f, f < 64 → tb x f = p f := by
  have g : ∀ k, k ≤ 64 → ∃ x : Int64, ∀ f, f < 64 → tb x f = (p f && decide (f < k)) := by
    intro k
    induction k with
    | zero => intro _; exact ⟨0, fun f _ => by rw [tb_0]; simp⟩
    | succ k ih =>
      intro hk
      obtain ⟨x, hx⟩ := ih (by omega)
      cases e : p k with
      | false =>
        refine ⟨x, fun f hf => ?_⟩
        rw [hx f hf]
        by_cases z : f = k
        · subst z; rw [e]; rfl
        · congr 1; rw [decide_eq_decide]; omega
      | true =>
        refine ⟨x ||| jlshl 1 (nI k), fun f hf => ?_⟩
        rw [tb_or, hx f hf, tb_one (by omega)]
        by_cases z : f = k
        · subst z; rw [e]; simp
        · rw [decide_eq_false z, Bool.or_false]; congr 1; rw [decide_eq_decide]; omega
  obtain ⟨x, hx⟩ := g 64 (Nat.le_refl _)
  exact ⟨x, fun f hf => by rw [hx f hf, decide_eq_true hf, Bool.and_true]⟩
theorem chX_ex (B : Bas) (P : Nat → Nat) : ∃ cwl ct, chX B P (nI (bw B)) (nI (bh B)) (nI (bn B)) cwl ct (fun b => nI (bK B b)) (fun b => nI (P b)) (fun b => nI (bS B b)) (fun b => nI (bG B b)) (fun b => bI (decide (bY B b = 1))) (fun b => nI (xW B b)) (fun b => nI (xH B b)) (fun b => shp (xW B b) (xH B b)) := by
  obtain ⟨x, hx⟩ := bits_ex (bwl B)
  obtain ⟨y, hy⟩ := bits_ex (tkA B P)
  exact ⟨x, y, rfl, rfl, rfl, hx, hy, fun b _ => ⟨rfl, rfl, rfl, rfl, rfl⟩, fun b _ => rfl, fun b _ => rfl, fun b _ _ => rfl⟩
theorem bst_lt {B : Bas} {P : Nat → Nat} {b k : Nat} (h : basOk B) (hP : stC B P) (hl : (FL B 7 P).length ≤ 6000) (hb : bstX B P b k) : k < 6000 := by
  obtain ⟨cwl, ct, hc⟩ := chX_ex B P
  obtain ⟨r, f', qd', sp', w', h', n', wl', t', k', p', l', g', a', wd', hg', s', lo', hi', sl', fo', mv', di', qu', e, sc, q⟩ := s_fault11 (sg := false) (all := true) h hP hc (most := 7) rfl schI_0 0 0 0 0 0 0 0 (fun _ => 0) (fun _ => 0) (fun _ => 0) (fun _ => 0) (fun _ => 0) (fun _ => 0) (fun _ => 0) (fun _ => 0) (fun _ => 0) (fun _ => 0) (fun _ => 0) (fun _ => 0) (fun _ => 0)
  rcases q with ⟨q1, -⟩ | ⟨D, sx, -⟩
  · omega
  · obtain ⟨E, d1, d2, d3⟩ := hb
    have lt := (bestO_lt d2).1
    have := dist_uniq d1 sx.2.1 lt
    rw [d3] at this
    have := sx.2.2.2.1 b k lt this.symm
    omega
/-- some stand of those that can be come to is at least so far from being freed -/
def hrdP (B : Bas) (P : Nat → Nat) (least : Nat) : Prop := (FL B 7 P).length ≤ 6000 ∧ ∃ b k, bstX B P b k ∧ least ≤ k
theorem s_stays {B : Bas} {P : Nat → Nat} {least : Nat} {cw chh cn : Int32} {cwl ct : Int64} {ck cp cl cg ca cwd chg : Nat → Int32} {cs : Nat → Int64} (h : basOk B) (hP : stC B P) (hc : chX B P cw chh cn cwl ct ck cp cl cg ca cwd chg cs) (hle : least < 6000) {found : Int32} {slots for1 : Nat → Int32} (hs : schI found slots for1) (qd sp w0 h0 n0 : Int32) (wl0 t0 : Int64) (k0 p0 l0 g0 a0 wd0 hg0 : Nat → Int32) (s0 low high : Nat → Int64) (mv di qu : Nat → Int32) :
    ∃ (tt : Bool) (f' qd' sp' w' h' n' : Int32) (wl' t' : Int64) (k' p' l' g' a' wd' hg' : Nat → Int32) (s' lo' hi' : Nat → Int64) (sl' fo' mv' di' qu' : Nat → Int32), f_BargeBasin_staysAsHard_search11 (nI least) cw chh cn cwl ct ck cp cl cg ca cwd chg cs found qd sp w0 h0 n0 wl0 t0 k0 p0 l0 g0 a0 wd0 hg0 s0 low high slots for1 mv di qu = some (bI tt, f', qd', sp', w', h', n', wl', t', k', p', l', g', a', wd', hg', s', lo', hi', sl', fo', mv', di', qu') ∧ schI f' sl' fo' ∧ (tt = true ↔ hrdP B P least) := by
  obtain ⟨f1, sp1, t1, k1, p1, l1, g1, a1, wd1, hg1, s1, lo1, hi1, sl1, fo1, mv1, e1, cb, cg1, x1⟩ := s_explore h hP hc hs sp w0 h0 n0 wl0 t0 k0 p0 l0 g0 a0 wd0 hg0 s0 low high mv
  have sc := exS_sch x1
  unfold f_BargeBasin_staysAsHard_search11 f_BargeBasin_searcher_search11
  rw [ev_b _ rfl, un0_ap, ev_b _ e1, un21_ap]
  by_cases c : (FL B 7 P).length ≤ 6000
  · rw [decide_eq_true c, if_neg (show ¬ bI true = 0 by decide)]
    rcases x1 with ⟨y1, y2, y3⟩ | ⟨-, y2, -⟩
    · subst y2
      obtain ⟨qd2, t2, p2, mv2, di2, qu2, D, e2, d1, d2, d3⟩ := s_measure (sg := false) (most := 7) h y3 FL_nd cb cg1 hc.2.2.2.1 rfl qd t1 p1 mv1 di qu
      rw [show bI false = (0 : Int32) from rfl] at e2
      rw [ev_b _ e2, un6_ap, ev_b _ (s_farthest c d2 (fun u k hu e => by have := d3 u k hu e; omega))]
      cases eb : bestO D (FL B 7 P).length with
      | none =>
        have lt : oI ((none : Option Nat).bind D) < nI least := by
          show (-1 : Int32) < nI least
          rw [Int32.lt_iff_toInt_lt, nI_toInt (by omega), show (-1 : Int32).toInt = -1 by decide]
          omega
        rw [if_pos lt]
        refine ⟨false, _, _, _, _, _, _, _, _, _, _, _, _, _, _, _, _, _, _, _, _, _, _, _, rfl, sc, fun z => by (cases z), fun z => ?_⟩
        obtain ⟨-, b, k, ⟨E, f1, f2, f3⟩, -⟩ := z
        have nf := (bst_none d1).mp eb
        rw [(bst_none f1).mpr nf] at f2; cases f2
      | some b =>
        have l := bestO_lt eb
        obtain ⟨k, hk⟩ : ∃ k, D b = some k := by
          cases q : D b with
          | none => exact absurd q l.2
          | some k => exact ⟨k, rfl⟩
        have kb := d3 b k l.1 hk
        rw [show (some b).bind D = D b from rfl, hk, show oI (some k) = nI k from rfl]
        have lt : (nI k < nI least) = (k < least) := nI_ltE (by omega) (by omega)
        simp only [lt]
        have bx : bstX B P b k := ⟨D, d1, eb, hk⟩
        by_cases q : k < least
        · rw [if_pos q]
          refine ⟨false, _, _, _, _, _, _, _, _, _, _, _, _, _, _, _, _, _, _, _, _, _, _, _, rfl, sc, fun z => by (cases z), fun z => ?_⟩
          obtain ⟨-, b', k', hx, hl⟩ := z
          have := (bst_u bx hx).2
          omega
        · rw [if_neg q]
          exact ⟨true, _, _, _, _, _, _, _, _, _, _, _, _, _, _, _, _, _, _, _, _, _, _, _, rfl, sc, fun _ => ⟨c, b, k, bx, by omega⟩, fun _ => rfl⟩
    · omega
  · rw [decide_eq_false c, if_pos (show bI false = 0 by decide)]
    exact ⟨false, _, _, _, _, _, _, _, _, _, _, _, _, _, _, _, _, _, _, _, _, _, _, _, rfl, sc, fun z => by (cases z), fun z => absurd z.1 c⟩
theorem m_farNow {B : Bas} {P : Nat → Nat} {least : Nat} {kwl kk kat ks ky kg : Nat → Int32} (h : basOk B) (hP : stC B P) (hr : rfB B kk ks ky) (hwl : rfW B kwl) (hp : chP B P kat) (hg : chG B kg) (hle : least < 6000) (st0 ed0 : Int32) (kpl khd kch kdp kpr kbb kby kbs kf kfe ked keb kwho kh : Nat → Int32) :
    ∃ (s st ed : Int32) (kpl' khd' kch' kdp' kpr' kbb' kby' kbs' kf' kfe' ked' keb' kwho' kh' : Nat → Int32), f_BargeBasinModel_farNow (nI (bw B)) (nI (bh B)) (nI (bn B)) st0 ed0 kwl kk kat ks ky kg kpl khd kch kdp kpr kbb kby kbs kf kfe ked keb kwho kh = some (s, st, ed, kpl', khd', kch', kdp', kpr', kbb', kby', kbs', kf', kfe', ked', keb', kwho', kh') ∧ (¬ s < nI least ↔ hrdP B P least) ∧ ((s < 0 ∧ farX B P (-1) (-s) ∧ ¬ -s = 0) ∨ ((FL B 7 P).length ≤ 6000 ∧ ∃ b k, bstX B P b k ∧ k < 6000 ∧ s = nI k)) := by
  obtain ⟨s, sn', ed', b1, b2, b3, b4, b5, b6, b7, b8, b9, b10, b11, b12, b13, b14, e, x⟩ := m_hardest h hP hr hwl hp hg st0 ed0 kpl khd kch kdp kpr kbb kby kbs kf kfe ked keb kwho kh
  unfold f_BargeBasinModel_farNow
  rw [ev_b _ e, un17_ap]
  rcases hd_val x with ⟨y1, y2, y3⟩ | ⟨b, k, y1, y2, y3, y4, y5, -⟩
  · have ns : ¬ (0 : Int32) ≤ s := fun z => by rw [Int32.le_iff_toInt_le] at z; rw [Int32.lt_iff_toInt_lt] at y1; omega
    rw [if_neg ns]
    refine ⟨s, sn', ed', b1, b2, b3, b4, b5, b6, b7, b8, b9, b10, b11, b12, b13, b14, rfl, ⟨fun z => absurd ?_ z, fun z => ?_⟩, Or.inl ⟨y1, y2, y3⟩⟩
    · rw [Int32.lt_iff_toInt_lt] at y1 ⊢
      rw [nI_toInt (by omega)]
      have : (0 : Int32).toInt = 0 := rfl
      omega
    · obtain ⟨z1, b, k, z2, z3⟩ := z
      rcases y2 with ⟨w1, -, -⟩ | ⟨-, w2, -, -⟩ | ⟨-, b', k', w2, w3, w4⟩
      · omega
      · obtain ⟨E, f1, f2, f3⟩ := z2
        rw [(bst_none f1).mpr w2] at f2; cases f2
      · exact absurd w4 y3
  · subst y4
    rw [if_pos (nI_pos' (by omega)), ev_grdN _ (show b < 6001 by omega) (by decide), nI_clamp (by omega), y5]
    have kl := bst_lt h hP y1 y3
    have lt : (nI k < nI least) = (k < least) := nI_ltE (by omega) (by omega)
    refine ⟨nI k, sn', ed', b1, b2, b3, b4, b5, b6, b7, b8, b9, b10, b11, b12, b13, b14, rfl, ⟨fun z => ?_, fun z => ?_⟩, Or.inr ⟨y1, b, k, y3, kl, rfl⟩⟩
    · rw [lt] at z; exact ⟨y1, b, k, y3, by omega⟩
    · obtain ⟨-, b', k', hx, hl⟩ := z
      have := (bst_u y3 hx).2
      rw [lt]; omega
