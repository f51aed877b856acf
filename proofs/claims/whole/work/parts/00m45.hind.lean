/-! What hinders a barge, on both sides. Numbers as naturals. -/
theorem nI_leE {a b : Nat} (ha : a < 2 ^ 31) (hb : b < 2 ^ 31) : (nI a ≤ nI b) = (a ≤ b) := propext (nI_leI ha hb)
theorem nI_ltE {a b : Nat} (ha : a < 2 ^ 31) (hb : b < 2 ^ 31) : (nI a < nI b) = (a < b) := propext (nI_ltI ha hb)
theorem cmp0 {x : Int64} : (lg_cmp x 0 = 0) = (x = 0) := by
  unfold lg_cmp
  by_cases h : x > 0
  · rw [if_pos h]
    exact propext ⟨fun e => absurd e (by decide), fun e => by subst e; exact absurd h (by decide)⟩
  · rw [if_neg h]
    by_cases h2 : x = 0
    · rw [if_pos h2]; simp [h2]
    · rw [if_neg h2]
      exact propext ⟨fun e => absurd e (by decide), fun e => absurd e h2⟩
def anyF (p : Nat → Bool) : Bool := (List.range 64).any p
theorem anyF_t {p : Nat → Bool} : anyF p = true ↔ ∃ f, f < 64 ∧ p f = true := by
  simp [anyF, List.any_eq_true, List.mem_range]
theorem anyF_f {p : Nat → Bool} : anyF p = false ↔ ∀ f, f < 64 → p f = false := by
  rw [← Bool.not_eq_true, anyF_t]
  constructor
  · intro h f hf
    rw [← Bool.not_eq_true]
    exact fun e => h ⟨f, hf, e⟩
  · rintro h ⟨f, hf, e⟩
    rw [h f hf] at e
    cases e
theorem anyF_cg {p q : Nat → Bool} (h : ∀ f, f < 64 → p f = q f) : anyF p = anyF q := by
  rw [Bool.eq_iff_iff, anyF_t, anyF_t]
  exact ⟨fun ⟨f, hf, e⟩ => ⟨f, hf, by rw [← h f hf]; exact e⟩, fun ⟨f, hf, e⟩ => ⟨f, hf, by rw [h f hf]; exact e⟩⟩
theorem and0 {x y : Int64} : (x &&& y = 0) = (anyF (fun f => tb x f && tb y f) = false) := by
  rw [anyF_f, propext (tb_zero (x := x &&& y))]
  refine propext ⟨fun h f hf => ?_, fun h f hf => ?_⟩
  · rw [← tb_and]; exact h f hf
  · rw [tb_and]; exact h f hf
/-! Directions. -/
def dxI (d : Nat) : Int := if d = 1 then 1 else if d = 3 then -1 else 0
def dyI (d : Nat) : Int := if d = 0 then -1 else if d = 2 then 1 else 0
def nxt (d q : Nat) : Nat := ((q : Int) + dxI d + 8 * dyI d).toNat
def goIn (w h W H d q : Nat) : Bool := decide (0 ≤ ((q % 8 : Nat) : Int) + dxI d ∧ ((q % 8 : Nat) : Int) + dxI d + W ≤ w ∧ 0 ≤ ((q / 8 : Nat) : Int) + dyI d ∧ ((q / 8 : Nat) : Int) + dyI d + H ≤ h)
def nextTo (q f : Nat) : Bool := decide (f = q + 8 ∨ f + 8 = q ∨ (f = q + 1 ∧ q % 8 < 7) ∨ (f + 1 = q ∧ 0 < q % 8))
/-- why something of kind k, W wide and H high, can't step from q in direction d; ot: where others lie -/
def hindA (w h k W H y : Nat) (wl ot : Nat → Bool) (d q : Nat) (bk : Bool) : Nat :=
  if (k = 1 ∨ k = 5) ∧ ¬ (y = 1 ↔ d % 2 = 0) then 1
  else if goIn w h W H d q = false then 2
  else if anyF (fun f => inB (nxt d q % 8) (nxt d q / 8) W H f && wl f) = true then 3
  else if anyF (fun f => inB (nxt d q % 8) (nxt d q / 8) W H f && ot f) = true then 4
  else if k = 4 ∧ anyF (fun f => nextTo (if bk then nxt d q else q) f && ot f) = true then 5 else 0
theorem geo_x : ∀ q, q < 64 → ∀ d, d < 4 → ((nI q &&& 7) + sv_STEP_X d).toInt = ((q % 8 : Nat) : Int) + dxI d := by decide +kernel
theorem geo_y : ∀ q, q < 64 → ∀ d, d < 4 → ((jishr (nI q) 3) + sv_STEP_Y d).toInt = ((q / 8 : Nat) : Int) + dyI d := by decide +kernel
theorem geo_s : ∀ q, q < 64 → ∀ d, d < 4 → 0 ≤ ((q % 8 : Nat) : Int) + dxI d → 0 ≤ ((q / 8 : Nat) : Int) + dyI d → nI q + sv_STEP d = nI (nxt d q) := by decide +kernel
theorem geo_n {q d : Nat} (hd : d < 4) (h1 : 0 ≤ ((q % 8 : Nat) : Int) + dxI d) (h2 : ((q % 8 : Nat) : Int) + dxI d < 8) (h3 : 0 ≤ ((q / 8 : Nat) : Int) + dyI d) (h4 : ((q / 8 : Nat) : Int) + dyI d < 8) :
    nxt d q < 64 ∧ ((nxt d q % 8 : Nat) : Int) = ((q % 8 : Nat) : Int) + dxI d ∧ ((nxt d q / 8 : Nat) : Int) = ((q / 8 : Nat) : Int) + dyI d := by
  have : d = 0 ∨ d = 1 ∨ d = 2 ∨ d = 3 := by omega
  rcases this with e | e | e | e <;> subst e <;> simp [dxI, dyI, nxt] at * <;> omega
theorem goIn_t {w h W H d q : Nat} (hw : w ≤ 8) (hh : h ≤ 8) (hW : 1 ≤ W) (hH : 1 ≤ H) (hd : d < 4) (hg : goIn w h W H d q = true) :
    nxt d q < 64 ∧ nxt d q % 8 + W ≤ w ∧ nxt d q / 8 + H ≤ h ∧ ((nxt d q % 8 : Nat) : Int) = ((q % 8 : Nat) : Int) + dxI d ∧ ((nxt d q / 8 : Nat) : Int) = ((q / 8 : Nat) : Int) + dyI d := by
  unfold goIn at hg
  rw [decide_eq_true_eq] at hg
  have g := geo_n (q := q) hd hg.1 (by omega) hg.2.2.1 (by omega)
  omega
theorem s_isInside {x y : Int32} {w h W H : Nat} (hw : w ≤ 8) (hh : h ≤ 8) (hW : W ≤ 8) (hH : H ≤ 8) : f_Chart_isInside x y (nI W) (nI H) (nI w) (nI h) = some (bI (decide (0 ≤ x.toInt ∧ x.toInt + W ≤ w ∧ 0 ≤ y.toInt ∧ y.toInt + H ≤ h))) := by
  unfold f_Chart_isInside
  have z : (0 : Int32).toInt = 0 := rfl
  simp only [Int32.lt_iff_toInt_lt, pk_sub_toInt (show w < 2 ^ 30 by omega) (show W < 2 ^ 30 by omega), pk_sub_toInt (show h < 2 ^ 30 by omega) (show H < 2 ^ 30 by omega), z]
  by_cases h1 : x.toInt < 0
  · rw [if_pos h1, decide_eq_false (by omega)]; rfl
  · rw [if_neg h1]
    by_cases h2 : (w : Int) - W < x.toInt
    · rw [if_pos h2, decide_eq_false (by omega)]; rfl
    · rw [if_neg h2]
      by_cases h3 : y.toInt < 0
      · rw [if_pos h3, decide_eq_false (by omega)]; rfl
      · rw [if_neg h3]
        by_cases h4 : (h : Int) - H < y.toInt
        · rw [if_pos h4, decide_eq_false (by omega)]; rfl
        · rw [if_neg h4, decide_eq_true (by omega)]; rfl
theorem s_beside : ∀ q, q < 64 → ∃ x, f_Chart_beside (nI q) = some x ∧ ∀ f, f < 64 → tb x f = nextTo q f := by
  have h : ∀ q, q < 64 → (match f_Chart_beside (nI q) with | none => false | some x => (List.range 64).all (fun f => tb x f == nextTo q f)) = true := by decide +kernel
  intro q hq
  have := h q hq
  cases e : f_Chart_beside (nI q) with
  | none => rw [e] at this; cases this
  | some x =>
    rw [e] at this
    refine ⟨x, rfl, fun f hf => ?_⟩
    have := List.all_eq_true.mp this f (List.mem_range.mpr hf)
    exact eq_of_beq this
theorem tb_others {t : Int64} {p W H : Nat} {f : Nat} (hp : p < 64) (hW : W < 5) (hH : H < 5) (hpw : p % 8 + W ≤ 8) (hf : f < 64) :
    tb (t &&& (jlshl (shp W H) (nI p) ^^^ (-1))) f = (tb t f && !inB (p % 8) (p / 8) W H f) := by
  rw [tb_and, tb_not hf, shp_at hp hW hH hpw hf]
theorem s_hindJ169 {o : Int64} {q : Nat} (hq : q < 64) {ot : Nat → Bool} (ho : ∀ f, f < 64 → tb o f = ot f) : f_Chart_hindrance_J169 o (nI q) = some (nI (if anyF (fun f => nextTo q f && ot f) = true then 5 else 0)) := by
  obtain ⟨x, hx, hb⟩ := s_beside q hq
  unfold f_Chart_hindrance_J169
  rw [ev_b _ hx]
  simp only [cmp0, and0]
  have e : anyF (fun f => tb x f && tb o f) = anyF (fun f => nextTo q f && ot f) := anyF_cg fun f hf => by rw [hb f hf, ho f hf]
  rw [e]
  cases anyF (fun f => nextTo q f && ot f) <;> rfl
theorem s_hindJ38 {b d q p w h k W H : Nat} {bk : Bool} {wl ot : Nat → Bool} {kwl kt : Int64} {kk kp kw kh : Nat → Int32} {ks : Nat → Int64}
    (hb : b < 12) (hd : d < 4) (hq : q < 64) (hp : p < 64) (hw : w ≤ 8) (hh : h ≤ 8) (hk6 : k < 6) (hW1 : 1 ≤ W) (hH1 : 1 ≤ H) (hW : W < 5) (hH : H < 5) (hpw : p % 8 + W ≤ 8)
    (hk : kk b = nI k) (hkp : kp b = nI p) (hkw : kw b = nI W) (hkh : kh b = nI H) (hks : ks b = shp W H)
    (hwl : ∀ f, f < 64 → tb kwl f = wl f) (hot : ∀ f, f < 64 → (tb kt f && !inB (p % 8) (p / 8) W H f) = ot f) :
    f_Chart_hindrance_J38 (nI b) (nI q) (nI d) (bI bk) (nI w) (nI h) kwl kt kk kp kw kh ks = some (nI (if goIn w h W H d q = false then 2
      else if anyF (fun f => inB (nxt d q % 8) (nxt d q / 8) W H f && wl f) = true then 3
      else if anyF (fun f => inB (nxt d q % 8) (nxt d q / 8) W H f && ot f) = true then 4
      else if k = 4 ∧ anyF (fun f => nextTo (if bk then nxt d q else q) f && ot f) = true then 5 else 0)) := by
  have cd : (nI d).toNatClampNeg = d := nI_clamp (by omega)
  unfold f_Chart_hindrance_J38
  rw [ev_grdN _ hd (by decide), ev_bnd, ev_grdN _ hd (by decide), ev_bnd, ev_grdN _ hb (by decide), ev_grdN _ hb (by decide), cl_nI hb, cd, hkw, hkh, ev_b _ (s_isInside hw hh (by omega) (by omega)), geo_x q hq d hd, geo_y q hq d hd]
  rw [show (decide (0 ≤ ((q % 8 : Nat) : Int) + dxI d ∧ ((q % 8 : Nat) : Int) + dxI d + W ≤ w ∧ 0 ≤ ((q / 8 : Nat) : Int) + dyI d ∧ ((q / 8 : Nat) : Int) + dyI d + H ≤ h)) = goIn w h W H d q from rfl]
  cases hg : goIn w h W H d q with
  | false => rfl
  | true =>
    obtain ⟨g1, g2, g3, g4, g5⟩ := goIn_t hw hh hW1 hH1 hd hg
    rw [if_neg (show ¬ bI true = 0 by decide), if_neg (show ¬ true = false by decide), ev_grdN _ hd (by decide), ev_bnd, ev_grdN _ hb (by decide), ev_bnd, geo_s q hq d hd (by omega) (by omega), hks, ev_b _ (s_fieldsOf hb hkp hks), ev_bnd, hk]
    simp only [cmp0, and0]
    have e1 : anyF (fun f => tb (jlshl (shp W H) (nI (nxt d q))) f && tb kwl f) = anyF (fun f => inB (nxt d q % 8) (nxt d q / 8) W H f && wl f) := anyF_cg fun f hf => by rw [shp_at g1 hW hH (by omega) hf, hwl f hf]
    have e2 : anyF (fun f => tb (jlshl (shp W H) (nI (nxt d q))) f && tb (kt &&& (jlshl (shp W H) (nI p) ^^^ (-1))) f) = anyF (fun f => inB (nxt d q % 8) (nxt d q / 8) W H f && ot f) := anyF_cg fun f hf => by rw [shp_at g1 hW hH (by omega) hf, tb_others hp hW hH hpw hf, hot f hf]
    rw [e1, e2]
    cases h3 : anyF (fun f => inB (nxt d q % 8) (nxt d q / 8) W H f && wl f) with
    | true => rfl
    | false =>
      cases h4 : anyF (fun f => inB (nxt d q % 8) (nxt d q / 8) W H f && ot f) with
      | true => rfl
      | false =>
        have hoo : ∀ f, f < 64 → tb (kt &&& (jlshl (shp W H) (nI p) ^^^ (-1))) f = ot f := fun f hf => by rw [tb_others hp hW hH hpw hf, hot f hf]
        have c4 : (nI k = 4) = (k = 4) := nI_eqL (j := 4) (by omega) (by decide)
        simp only [if_true, if_false, Bool.false_eq_true, ev_grdN _ hb (show 12 < 2 ^ 31 by decide), c4]
        by_cases k4 : k = 4
        · simp only [k4, if_true, true_and]
          cases bk with
          | false => rw [if_pos (show bI false = 0 by decide), s_hindJ169 hq hoo]; rfl
          | true => rw [if_neg (show ¬ bI true = 0 by decide), s_hindJ169 g1 hoo]; rfl
        · simp only [k4, if_false, false_and]; rfl
theorem s_hindrance {b d q p w h k W H y : Nat} {bk : Bool} {wl ot : Nat → Bool} {kwl kt : Int64} {kk kp ka kw kh : Nat → Int32} {ks : Nat → Int64}
    (hb : b < 12) (hd : d < 4) (hq : q < 64) (hp : p < 64) (hw : w ≤ 8) (hh : h ≤ 8) (hk6 : k < 6) (hW1 : 1 ≤ W) (hH1 : 1 ≤ H) (hW : W < 5) (hH : H < 5) (hpw : p % 8 + W ≤ 8)
    (hk : kk b = nI k) (hkp : kp b = nI p) (hka : ka b = bI (decide (y = 1))) (hkw : kw b = nI W) (hkh : kh b = nI H) (hks : ks b = shp W H)
    (hwl : ∀ f, f < 64 → tb kwl f = wl f) (hot : ∀ f, f < 64 → (tb kt f && !inB (p % 8) (p / 8) W H f) = ot f) :
    f_Chart_hindrance (nI b) (nI q) (nI d) (bI bk) (nI w) (nI h) kwl kt kk kp ka kw kh ks = some (nI (hindA w h k W H y wl ot d q bk)) := by
  have J := s_hindJ38 (bk := bk) hb hd hq hp hw hh hk6 hW1 hH1 hW hH hpw hk hkp hkw hkh hks hwl hot
  have J11 : ∀ c : Bool, f_Chart_hindrance_J11 (nI b) (nI q) (nI d) (bI bk) (bI c) (nI w) (nI h) kwl kt kk kp ka kw kh ks = if (k = 1 ∨ k = 5) ∧ ¬ (decide (y = 1) = c) then some (nI 1) else f_Chart_hindrance_J38 (nI b) (nI q) (nI d) (bI bk) (nI w) (nI h) kwl kt kk kp kw kh ks := by
    intro c
    unfold f_Chart_hindrance_J11
    rw [ev_grdN _ hb (by decide), cl_nI hb, hk, ev_b _ (s_isBound hk6), ev_grdN _ hb (by decide), hka]
    by_cases a : k = 1 ∨ k = 5
    · rw [decide_eq_true a, if_neg (show ¬ bI true = 0 by decide)]
      by_cases e : decide (y = 1) = c
      · rw [e, if_pos rfl, if_neg (by simp)]
      · have ne : ¬ bI (decide (y = 1)) = bI c := by
          intro q; apply e; revert q; cases decide (y = 1) <;> cases c <;> decide
        rw [if_neg ne, if_pos ⟨a, e⟩]; rfl
    · rw [decide_eq_false a, if_pos (show bI false = 0 by decide), if_neg (fun q => a q.1)]
  have hd4 : ((nI d &&& 1) = 0) = (d % 2 = 0) := by
    have : ∀ d, d < 4 → decide ((nI d &&& 1) = 0) = decide (d % 2 = 0) := by decide +kernel
    exact propext (decide_eq_decide.mp (this d hd))
  unfold f_Chart_hindrance hindA
  rw [show (1 : Int32) = bI true from rfl, show (0 : Int32) = bI false from rfl, J11, J11, show bI true = (1 : Int32) from rfl, show bI false = (0 : Int32) from rfl, J]
  simp only [hd4]
  by_cases e : d % 2 = 0
  · by_cases y1 : y = 1
    · simp [e, y1]
    · by_cases a : k = 1 ∨ k = 5
      · simp [e, y1, a]
      · simp [e, y1, a]
  · by_cases y1 : y = 1
    · by_cases a : k = 1 ∨ k = 5
      · simp [e, y1, a]
      · simp [e, y1, a]
    · simp [e, y1]
