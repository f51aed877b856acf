/-! low of both sides: the ways of the red ones that are away from their gates. -/
def rwA (y m S k f : Nat) : Bool := if y = 0 then decide (0 < k ∧ f / 8 = m / 8 ∧ m % 8 ≤ f % 8 ∧ f % 8 + 1 < m % 8 + k + S) else decide (0 < k ∧ f % 8 = m % 8 ∧ m / 8 ≤ f / 8 ∧ f / 8 + 1 < m / 8 + k + S)
def stp (y : Nat) : Nat := if y = 0 then 1 else 8
theorem rwA_s0 {m S k f : Nat} (hf : f < 64) (hS : 1 ≤ S) (hk : m % 8 + k + S ≤ 8) : rwA 0 m S (k + 1) f = (rwA 0 m S k f || inB ((m + k) % 8) ((m + k) / 8) S 1 f) := by
  unfold rwA inB
  rw [if_pos rfl, if_pos rfl, Bool.eq_iff_iff]
  simp only [Bool.or_eq_true, Bool.and_eq_true, decide_eq_true_eq]
  omega
theorem rwA_s1 {m S k f : Nat} (hf : f < 64) (hS : 1 ≤ S) (hk : m / 8 + k + S ≤ 8) : rwA 1 m S (k + 1) f = (rwA 1 m S k f || inB ((m + 8 * k) % 8) ((m + 8 * k) / 8) 1 S f) := by
  unfold rwA inB
  rw [if_neg (by decide), if_neg (by decide), Bool.eq_iff_iff]
  simp only [Bool.or_eq_true, Bool.and_eq_true, decide_eq_true_eq]
  omega
theorem s_wayL {y b m S q : Nat} {ks : Nat → Int64} (hb : b < 12) (hy : y < 2) (hS : 1 ≤ S) (hS5 : S < 5) (hm : m < 64) (hs : ks b = shp (if y = 0 then S else 1) (if y = 0 then 1 else S)) (hq : (y = 0 → m % 8 + q + S ≤ 8) ∧ (y = 1 → m / 8 + q + S ≤ 8)) :
    ∀ (r k n : Nat) (v : Int64), k + r = q + 1 → r < n → (∀ f, f < 64 → tb v f = rwA y m S k f) → ∃ V, f_Chart_wayOf_L55 (nI b) (nI (stp y)) (nI (m + stp y * q)) ks n v (nI (m + stp y * k)) = some V ∧ ∀ f, f < 64 → tb V f = rwA y m S (q + 1) f := by
  intro r
  induction r with
  | zero =>
    intro k n v h1 h2 h3
    obtain ⟨n, rfl⟩ : ∃ z, n = z + 1 := ⟨n - 1, by omega⟩
    have e : k = q + 1 := by omega
    subst e
    have hy' : y = 0 ∨ y = 1 := by omega
    refine ⟨v, ?_, h3⟩
    have lt : (nI (m + stp y * q) < nI (m + stp y * (q + 1))) = (m + stp y * q < m + stp y * (q + 1)) := nI_ltE (by rcases hy' with e | e <;> subst e <;> simp [stp] at hq ⊢ <;> omega) (by rcases hy' with e | e <;> subst e <;> simp [stp] at hq ⊢ <;> omega)
    rw [f_Chart_wayOf_L55, if_pos (by rw [lt]; rcases hy' with e | e <;> subst e <;> simp [stp] <;> omega)]
  | succ r ih =>
    intro k n v h1 h2 h3
    obtain ⟨n, rfl⟩ : ∃ z, n = z + 1 := ⟨n - 1, by omega⟩
    have hy' : y = 0 ∨ y = 1 := by omega
    have lt : (nI (m + stp y * q) < nI (m + stp y * k)) = (m + stp y * q < m + stp y * k) := nI_ltE (by rcases hy' with e | e <;> subst e <;> simp [stp] at hq ⊢ <;> omega) (by rcases hy' with e | e <;> subst e <;> simp [stp] at hq ⊢ <;> omega)
    have nx : nI (m + stp y * k) + nI (stp y) = nI (m + stp y * (k + 1)) := by rw [nI_add, Nat.mul_add, Nat.mul_one, Nat.add_assoc]
    rw [f_Chart_wayOf_L55, if_neg (by rw [lt]; rcases hy' with e | e <;> subst e <;> simp [stp] <;> omega), ev_grdN _ hb (by decide), cl_nI hb, ev_bnd, ev_bnd, nx, hs]
    refine ih (k + 1) n _ (by omega) (by omega) (fun f hf => ?_)
    rw [tb_or, h3 f hf]
    rcases hy' with e | e
    · subst e
      have hq' := hq.1 rfl
      rw [rwA_s0 hf hS (by omega), if_pos rfl, if_pos rfl, show m + stp 0 * k = m + k by simp [stp], shp_at (by omega) hS5 (by decide) (by omega) hf]
    · subst e
      have hq' := hq.2 rfl
      rw [rwA_s1 hf hS (by omega), if_neg (by decide), if_neg (by decide), show m + stp 1 * k = m + 8 * k by simp [stp], shp_at (by omega) (by decide) hS5 (by omega) hf]
/-- the least of place and gate; how many steps lie between them -/
def loA (B : Bas) (P : Nat → Nat) (b : Nat) : Nat := min (P b) (bG B b)
def qqA (B : Bas) (P : Nat → Nat) (b : Nat) : Nat := if bY B b = 0 then max (P b) (bG B b) % 8 - loA B P b % 8 else max (P b) (bG B b) / 8 - loA B P b / 8
theorem way_geo {B : Bas} {P : Nat → Nat} {b : Nat} (h : basOk B) (hP : stC B P) (hb : b < bn B) (k5 : bK B b = 5) :
    loA B P b < 64 ∧ max (P b) (bG B b) = loA B P b + stp (bY B b) * qqA B P b ∧ ((bY B b = 0 → loA B P b % 8 + qqA B P b + bS B b ≤ 8) ∧ (bY B b = 1 → loA B P b / 8 + qqA B P b + bS B b ≤ 8)) ∧ 2 ≤ bS B b ∧ bS B b < 5 ∧ xW B b = (if bY B b = 0 then bS B b else 1) ∧ xH B b = (if bY B b = 0 then 1 else bS B b) ∧ bY B b < 2 := by
  have w8 := h.2.1
  have h8 := h.2.2.2.1
  obtain ⟨l1, l2, l3⟩ := h.2.2.2.2.2.1 b hb
  have S2 : 2 ≤ bS B b ∧ bS B b ≤ 4 := by unfold lenOk at l1; omega
  obtain ⟨g1, g2, g3, g4⟩ := hP.2.2 b hb k5
  obtain ⟨i1, i2⟩ := hP.1.1 b hb
  have y01 : bY B b = 0 ∨ bY B b = 1 := by omega
  have p64 := ins_64 h hP.1.1 hb
  have g64 := h.2.2.2.2.2.2 b hb k5
  have xw : xW B b = (if bY B b = 0 then bS B b else 1) := by unfold xW bW; rw [k5]; rcases y01 with e | e <;> rw [e] <;> rfl
  have xh : xH B b = (if bY B b = 0 then 1 else bS B b) := by unfold xH bH; rw [k5]; rcases y01 with e | e <;> rw [e] <;> rfl
  refine ⟨by unfold loA; omega, ?_, ?_, S2.1, by omega, xw, xh, l2⟩
  · unfold qqA loA stp
    rcases y01 with e | e
    · have := g1 e
      rw [if_pos e, if_pos e]
      omega
    · have := g2 e
      rw [if_neg (by omega), if_neg (by omega)]
      omega
  · unfold qqA loA
    rw [xw] at i1 g3
    rw [xh] at i2 g4
    refine ⟨fun e => ?_, fun e => ?_⟩
    · have := g1 e
      rw [if_pos e] at i1 g3
      rw [if_pos e]
      omega
    · have := g2 e
      rw [if_neg (by omega)] at i2 g4
      rw [if_neg (by omega)]
      omega
def awA (B : Bas) (P : Nat → Nat) (b : Nat) : Bool := decide (bK B b = 5) && decide (P b ≠ bG B b)
def wyA (B : Bas) (P : Nat → Nat) (b f : Nat) : Bool := rwA (bY B b) (loA B P b) (bS B b) (qqA B P b + 1) f
theorem mmI {a b : Nat} (ha : a < 64) (hb : b < 64) : (if nI b < nI a then nI b else nI a) = nI (min a b) ∧ (if nI a < nI b then nI b else nI a) = nI (max a b) := by
  have e1 : (nI b < nI a) = (b < a) := nI_ltE (by omega) (by omega)
  have e2 : (nI a < nI b) = (a < b) := nI_ltE (by omega) (by omega)
  simp only [e1, e2]
  constructor
  · by_cases c : b < a
    · rw [if_pos c, Nat.min_eq_right (by omega)]
    · rw [if_neg c, Nat.min_eq_left (by omega)]
  · by_cases c : a < b
    · rw [if_pos c, Nat.max_eq_right (by omega)]
    · rw [if_neg c, Nat.max_eq_left (by omega)]
theorem s_wayOf {B : Bas} {P : Nat → Nat} {b : Nat} {kk ka kw kh kp kg : Nat → Int32} {ks : Nat → Int64} (h : basOk B) (hP : stC B P) (hc : chB B kk ka kw kh ks) (hp : chP B P kp) (hg : chG B kg) (hb : b < bn B) (k5 : bK B b = 5) : ∃ V, f_Chart_wayOf (nI b) kp kg ka ks = some V ∧ ∀ f, f < 64 → tb V f = wyA B P b f := by
  obtain ⟨o1, o2, o3, o4, o5, o6, o7, o8⟩ := way_geo h hP hb k5
  have b12 := (basOk_wh h hb).1
  have p64 := ins_64 h hP.1.1 hb
  have g64 := h.2.2.2.2.2.2 b hb k5
  obtain ⟨c1, c2, c3, c4, c5⟩ := hc b hb
  have q7 : qqA B P b ≤ 7 := by
    have y2 : bY B b = 0 ∨ bY B b = 1 := by omega
    rcases y2 with e | e
    · have := o3.1 e; omega
    · have := o3.2 e; omega
  obtain ⟨V, v1, v2⟩ := s_wayL (ks := ks) (q := qqA B P b) b12 o8 (show 1 ≤ bS B b by omega) o5 o1 (by rw [c5, o6, o7]) o3 (qqA B P b + 1) 0 jN 0 (by omega) (by show qqA B P b + 1 < 2000000; omega) (fun f hf => by rw [tb_0]; unfold rwA; split <;> simp)
  refine ⟨V, ?_, v2⟩
  have mm := mmI p64 g64
  have J : f_Chart_wayOf_J15 (nI b) (nI (stp (bY B b))) kp kg ks = some V := by
    unfold f_Chart_wayOf_J15
    simp only [ev_grdN _ b12 (show 12 < 2 ^ 31 by decide), cl_nI b12, hp b hb, hg b hb k5, mm.1, mm.2, ev_bnd]
    rw [o2]
    rw [ev_b _ (show f_Chart_wayOf_L55 (nI b) (nI (stp (bY B b))) (nI (loA B P b + stp (bY B b) * qqA B P b)) ks jN 0 (nI (min (P b) (bG B b))) = some V from v1)]
  unfold f_Chart_wayOf
  rw [ev_grdN _ b12 (by decide), cl_nI b12, c2]
  by_cases e : bY B b = 1
  · rw [decide_eq_true e, if_neg (show ¬ bI true = 0 by decide)]
    rw [e] at J; exact J
  · rw [decide_eq_false e, if_pos (show bI false = 0 by decide)]
    rw [show bY B b = 0 by omega] at J; exact J
def ovA (B : Bas) (P : Nat → Nat) (n f : Nat) : Bool := (List.range n).any fun b => awA B P b && wyA B P b f
theorem any_s {p : Nat → Bool} {n : Nat} : (List.range (n + 1)).any p = ((List.range n).any p || p n) := by
  rw [List.range_succ, List.any_append]
  simp
theorem s_lowL4 {B : Bas} {P : Nat → Nat} {kk ka kw kh kp kg : Nat → Int32} {ks : Nat → Int64} (h : basOk B) (hP : stC B P) (hc : chB B kk ka kw kh ks) (hp : chP B P kp) (hg : chG B kg) : ∀ (r b n : Nat) (v : Int64), b + r = bn B → r < n → (∀ f, f < 64 → tb v f = ovA B P b f) → ∃ V, f_Chart_countLow_L4 (nI (bn B)) kk kp kg ka ks n v (nI b) = some V ∧ ∀ f, f < 64 → tb V f = ovA B P (bn B) f := by
  have n12 := h.2.2.2.2.1
  intro r
  induction r with
  | zero =>
    intro b n v h1 h2 h3
    obtain ⟨n, rfl⟩ : ∃ z, n = z + 1 := ⟨n - 1, by omega⟩
    have e : b = bn B := by omega
    subst e
    exact ⟨v, by rw [f_Chart_countLow_L4, if_pos (nI_le (Nat.le_refl _) (by omega))], h3⟩
  | succ r ih =>
    intro b n v h1 h2 h3
    obtain ⟨n, rfl⟩ : ∃ z, n = z + 1 := ⟨n - 1, by omega⟩
    have hb : b < bn B := by omega
    obtain ⟨a1, a2, -⟩ := basOk_wh h hb
    rw [f_Chart_countLow_L4, if_neg (nI_ge hb (by omega)), ev_b _ (s_isAway2 a1 (hc b hb).1 (hp b hb) (hg b hb) a2 (ins_64 h hP.1.1 hb) (h.2.2.2.2.2.2 b hb))]
    have nx : ∀ f, ovA B P (b + 1) f = (ovA B P b f || (awA B P b && wyA B P b f)) := fun f => any_s
    cases e : awA B P b with
    | false =>
      rw [show (decide (bK B b = 5) && decide (P b ≠ bG B b)) = false from e, if_pos (show bI false = 0 by decide), ev_bnd, nI_1]
      exact ih (b + 1) n v (by omega) (by omega) (fun f hf => by rw [h3 f hf, nx, e]; simp)
    | true =>
      have k5 : bK B b = 5 := by unfold awA at e; rw [Bool.and_eq_true, decide_eq_true_eq] at e; exact e.1
      obtain ⟨V, v1, v2⟩ := s_wayOf h hP hc hp hg hb k5
      rw [show (decide (bK B b = 5) && decide (P b ≠ bG B b)) = true from e, if_neg (show ¬ bI true = 0 by decide), ev_b _ v1, ev_bnd, ev_bnd, nI_1]
      exact ih (b + 1) n _ (by omega) (by omega) (fun f hf => by rw [tb_or, h3 f hf, v2 f hf, nx, e]; simp)
def lwA (B : Bas) (P : Nat → Nat) (c : Nat) : Bool := anyF fun f => fbA B P c f && ovA B P (bn B) f
theorem s_lowL39 {B : Bas} {P : Nat → Nat} {V : Int64} {kk ka kw kh kp : Nat → Int32} {ks : Nat → Int64} (h : basOk B) (hP : stC B P) (hc : chB B kk ka kw kh ks) (hp : chP B P kp) (hV : ∀ f, f < 64 → tb V f = ovA B P (bn B) f) : ∀ (r b n : Nat), b + r = bn B → r < n → f_Chart_countLow_L39 V (nI (bn B)) kp ks n (nI (nmF (lwA B P) b)) (nI b) = some (nI (nmF (lwA B P) (bn B))) := by
  have n12 := h.2.2.2.2.1
  intro r
  induction r with
  | zero =>
    intro b n h1 h2
    obtain ⟨n, rfl⟩ : ∃ z, n = z + 1 := ⟨n - 1, by omega⟩
    have e : b = bn B := by omega
    subst e
    rw [f_Chart_countLow_L39, if_pos (nI_le (Nat.le_refl _) (by omega))]
  | succ r ih =>
    intro b n h1 h2
    obtain ⟨n, rfl⟩ : ∃ z, n = z + 1 := ⟨n - 1, by omega⟩
    have hb : b < bn B := by omega
    obtain ⟨x, x1, x2⟩ := s_fields h hP.1.1 hc hp hb
    have i := ih (b + 1) n (by omega) (by omega)
    have e : ((x &&& V) = 0) = (lwA B P b = false) := by
      apply propext
      unfold lwA
      rw [tb_zero, anyF_f]
      exact ⟨fun q f hf => by rw [← x2 f hf, ← hV f hf, ← tb_and]; exact q f hf, fun q f hf => by rw [tb_and, x2 f hf, hV f hf]; exact q f hf⟩
    rw [f_Chart_countLow_L39, if_neg (nI_ge hb (by omega)), ev_b _ x1]
    simp only [cmp0, e, ev_bnd, nI_1]
    rw [← i]
    show _ = f_Chart_countLow_L39 V (nI (bn B)) kp ks n (nI (nmF (lwA B P) b + (if lwA B P b then 1 else 0))) (nI (b + 1))
    cases lwA B P b with
    | false => rw [if_pos rfl]; rfl
    | true => rw [if_neg (by decide)]; rfl
theorem s_low {B : Bas} {P : Nat → Nat} {cw chh cn : Int32} {cwl ct : Int64} {ck cp cl cg ca cwd chg : Nat → Int32} {cs : Nat → Int64} (h : basOk B) (hP : stC B P) (hc : chX B P cw chh cn cwl ct ck cp cl cg ca cwd chg cs) (st : Int32) : f_BargeBasin_low st cw cn ck cp cg ca cs = some (nI (nmF (lwA B P) (bn B)), 0) := by
  obtain ⟨c1, c2, c3, c4, c5, c6, c7, c8, c9⟩ := hc
  subst c1; subst c2; subst c3
  have n12 := h.2.2.2.2.1
  obtain ⟨V, v1, v2⟩ := s_lowL4 h hP c6 c7 c9 (bn B) 0 jN 0 (by omega) (by show bn B < 2000000; omega) (fun f _ => by rw [tb_0]; rfl)
  have v3 := s_lowL39 h hP c6 c7 v2 (bn B) 0 jN (by omega) (by show bn B < 2000000; omega)
  unfold f_BargeBasin_low f_Chart_countLow
  rw [ev_b _ (noBas h), if_pos rfl, ev_b (x := f_Chart_countLow_L4 (nI (bn B)) ck cp cg ca cs jN 0 0) _ v1, ev_b (x := f_Chart_countLow_L39 V (nI (bn B)) cp cs jN 0 0) _ v3]
  rfl
