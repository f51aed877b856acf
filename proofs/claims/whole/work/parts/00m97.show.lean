/-! show of both sides. -/
/-- the sign of field x of row y -/
def letA (B : Bas) (P : Nat → Nat) (f : Nat) : Int32 := if bwl B f = true then 35 else match whoN (fbA B P) (bn B) f with | some b => if bK B b = 5 then 65 + nI b else 97 + nI b | none => 46
theorem s_letterAt {B : Bas} {P : Nat → Nat} {x y : Nat} {kwl : Int64} {kk ka kw kh kp : Nat → Int32} {ks : Nat → Int64} (h : basOk B) (hs : stOk B P) (hc : chB B kk ka kw kh ks) (hp : chP B P kp) (hw : chW B kwl) (hx : x < 8) (hy : y < 8) : f_Chart_letterAt (nI x) (nI y) (nI (bn B)) kwl kk kp ks = some (letA B P (x + 8 * y)) := by
  have n12 := h.2.2.2.2.1
  unfold f_Chart_letterAt letA
  rw [ev_b _ (s_signAt h hs hc hp hw hx hy)]
  cases bwl B (x + 8 * y) with
  | true => rfl
  | false =>
    rw [if_neg (show ¬ false = true by decide), if_neg (show ¬ false = true by decide)]
    cases eo : whoN (fbA B P) (bn B) (x + 8 * y) with
    | none => rfl
    | some b =>
      have hb := (whoN_mem eo).1
      have k6 := (basOk_wh h hb).2
      have e5 : (nI (bK B b) = 5) = (bK B b = 5) := nI_eqL (j := 5) (by have := (bgOk_wh (h.2.2.2.2.2.1 b hb)).1; omega) (by decide)
      show (if 0 ≤ nI b then _ else _) = some (if bK B b = 5 then 65 + nI b else 97 + nI b)
      rw [if_pos (show (0 : Int32) ≤ nI b from Int32.not_lt.mp (nI_nn (by omega)))]
      simp only [ev_grdN _ (show b < 12 by omega) (show 12 < 2 ^ 31 by decide), cl_nI (show b < 12 by omega), (hc b hb).1, e5]
      by_cases c : bK B b = 5
      · rw [if_pos c, if_pos c]
      · rw [if_neg c, if_neg c]
theorem m_showS {B : Bas} {P : Nat → Nat} {x y : Nat} {kwl kk kwho ks ky out : Nat → Int32} {m : Nat} (h : basOk B) (hwl : rfW B kwl) (hk : rfB B kk ks ky) (ho : rfO B P kwho) (hx : x < bw B) (hy : y < 8) : f_BargeBasinModel_show_L51 (nI y) (nI (bw B)) kwl kk kwho (m + 1) (nI x) out = f_BargeBasinModel_show_L51 (nI y) (nI (bw B)) kwl kk kwho m (nI (x + 1)) (upd out x (vp_nar .byte ((letA B P (x + 8 * y)).toInt8.toInt32))) := by
  have n12 := h.2.2.2.2.1
  have w8 := h.2.1
  have e : nI x + (8 : Int32) * nI y = nI (x + 8 * y) := by rw [i8, nI_add]
  rw [f_BargeBasinModel_show_L51, if_neg (nI_ge hx (by omega)), e]
  simp only [ev_grdN _ (show x + 8 * y < 64 by omega) (show 64 < 2 ^ 31 by decide), nI_clamp (show x + 8 * y < 2 ^ 31 by omega), ev_bnd, ev_grdN _ (show x < 8 by omega) (show 8 < 2 ^ 31 by decide), nI_clamp (show x < 2 ^ 31 by omega), nI_1, hwl _ (show x + 8 * y < 64 by omega), ho _ (show x + 8 * y < 64 by omega)]
  unfold letA
  cases bwl B (x + 8 * y) with
  | true => rw [if_neg (show ¬ bI true = 0 by decide), if_pos rfl]
  | false =>
    rw [if_pos (show bI false = 0 by decide), if_neg (show ¬ false = true by decide)]
    cases eo : whoN (fbA B P) (bn B) (x + 8 * y) with
    | none => rw [if_neg (show ¬ 0 ≤ oI none by decide)]
    | some b =>
      have hb := (whoN_mem eo).1
      have e5 : (nI (bK B b) = 5) = (bK B b = 5) := nI_eqL (j := 5) (by have := (bgOk_wh (h.2.2.2.2.2.1 b hb)).1; omega) (by decide)
      have eI : oI (some b) = nI b := rfl
      rw [eI, if_pos (show (0 : Int32) ≤ nI b from Int32.not_lt.mp (nI_nn (by omega)))]
      simp only [ev_grdN _ (show b < 12 by omega) (show 12 < 2 ^ 31 by decide), cl_nI (show b < 12 by omega), (hk b hb).1, e5]
      by_cases c : bK B b = 5
      · rw [if_pos c, if_pos c]
      · rw [if_neg c, if_neg c]
theorem showL {B : Bas} {P : Nat → Nat} {y : Nat} {cwl : Int64} {ck ca cwd chg cp : Nat → Int32} {cs : Nat → Int64} {kwl kk ks ky kwho : Nat → Int32} (h : basOk B) (hP : stC B P) (hc : chB B ck ca cwd chg cs) (hp : chP B P cp) (hw : chW B cwl) (hwl : rfW B kwl) (hk : rfB B kk ks ky) (ho : rfO B P kwho) (hy : y < 8) :
    ∀ (d x n : Nat) (sh out : Nat → Int32), x + d = bw B → d < n → (∀ i, i < x → sh i = out i) → ∃ S T, f_BargeBasin_show_L29 (nI y) (nI (bw B)) (nI (bn B)) cwl ck cp cs n (nI x) sh = some S ∧ f_BargeBasinModel_show_L51 (nI y) (nI (bw B)) kwl kk kwho n (nI x) out = some T ∧ ∀ i, i < bw B → S i = T i := by
  have w8 := h.2.1
  intro d
  induction d with
  | zero =>
    intro x n sh out q hn hi
    obtain ⟨m, rfl⟩ : ∃ m, n = m + 1 := ⟨n - 1, by omega⟩
    have e : x = bw B := by omega
    subst e
    refine ⟨sh, out, ?_, ?_, hi⟩
    · rw [f_BargeBasin_show_L29, if_pos (nI_le (Nat.le_refl _) (by omega))]
    · rw [f_BargeBasinModel_show_L51, if_pos (nI_le (Nat.le_refl _) (by omega))]
  | succ d ih =>
    intro x n sh out q hn hi
    obtain ⟨m, rfl⟩ : ∃ m, n = m + 1 := ⟨n - 1, by omega⟩
    rw [m_showS h hwl hk ho (show x < bw B by omega) hy, f_BargeBasin_show_L29, if_neg (nI_ge (show x < bw B by omega) (by omega)), ev_b _ (s_letterAt h hP.1 hc hp hw (show x < 8 by omega) hy)]
    simp only [ev_bnd, ev_grdN _ (show x < 8 by omega) (show 8 < 2 ^ 31 by decide), nI_clamp (show x < 2 ^ 31 by omega), nI_1]
    refine ih (x + 1) m _ _ (by omega) (by omega) (fun i hi' => ?_)
    by_cases z : i = x
    · rw [z, pk_us, pk_us]
    · rw [pk_un z, pk_un z]; exact hi i (by omega)
/-- what show() left behind: as many signs on both sides, and the same -/
def shR (cnt : Int32) (sh : Nat → Int32) (outs : Int32) (out : Nat → Int32) : Prop := ∃ w, w ≤ 8 ∧ cnt = nI w ∧ outs = nI w ∧ ∀ i, i < w → sh i = out i
theorem eq_show {B : Bas} {P : Nat → Nat} {cw chh cn : Int32} {cwl ct : Int64} {ck cp cl cg ca cwd chg : Nat → Int32} {cs : Nat → Int64} {khas kw kh kn : Int32} {kwl kk kat ks ky kg : Nat → Int32} {cnt outs : Int32} {sh out : Nat → Int32} (h : basOk B) (hP : stC B P) (hc : chX B P cw chh cn cwl ct ck cp cl cg ca cwd chg cs) (hr : rfX B P khas kw kh kn kwl kk kat ks ky kg) (hs : shR cnt sh outs out) (v1 st st2 th : Int32) (kwho khe : Nat → Int32) :
    ∃ (ans st' cnt' outs' : Int32) (sh' out' kwho' khe' : Nat → Int32), f_BargeBasin_show v1 cnt st cw chh cn cwl ck cp cs sh = some (ans, cnt', st', sh') ∧ f_BargeBasinModel_show v1 st2 th khas kw kh kn outs kwl kk kat ks ky kwho khe out = some (ans, st', 0, outs', kwho', khe', out') ∧ shR cnt' sh' outs' out' := by
  obtain ⟨c1, c2, c3, c4, c5, c6, c7, c8, c9⟩ := hc
  obtain ⟨r1, r2, r3, r4, r5, r6, r7, r8⟩ := hr
  subst c1; subst c2; subst c3; subst r1; subst r2; subst r3; subst r4
  have w8 := h.2.1
  have h8 := h.2.2.2.1
  unfold f_BargeBasin_show f_BargeBasinModel_show
  rw [ev_b _ (noBas h), if_pos rfl, if_neg (show ¬ (1 : Int32) = 0 by decide)]
  rcases lin (v1 := v1) h with ⟨y, hy, e, l1, l2⟩ | ⟨l1, l2⟩
  · subst e
    obtain ⟨kw1, kh1, e1, o1, p1⟩ := m_layAllB h hP.1.1 r6 r7 kwho khe
    obtain ⟨S, T, s1, s2, s3⟩ := showL h hP c6 c7 c4 r5 r6 o1 (show y < 8 by omega) (bw B) 0 jN sh out (by omega) (by show bw B < 2000000; omega) (fun i hi => by omega)
    rw [ev_b _ l1, ev_b _ l2, if_pos rfl, if_neg (show ¬ (1 : Int32) = 0 by decide), ev_b _ e1, un2_ap, ev_b _ (show f_BargeBasin_show_L29 (nI y) (nI (bw B)) (nI (bn B)) cwl ck cp cs jN 0 sh = _ from s1), ev_b _ (show f_BargeBasinModel_show_L51 (nI y) (nI (bw B)) kwl kk kw1 jN 0 out = _ from s2)]
    exact ⟨nI (bw B), 0, nI (bw B), nI (bw B), S, T, kw1, kh1, rfl, rfl, bw B, w8, rfl, rfl, s3⟩
  · rw [ev_b _ l1, ev_b _ l2, if_neg (show ¬ (1 : Int32) = 0 by decide), if_pos rfl]
    exact ⟨-1, 2, cnt, outs, sh, out, kwho, khe, rfl, rfl, hs⟩
