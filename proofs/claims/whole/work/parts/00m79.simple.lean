/-! room, field, lies: both sides answer alike. -/
def rfX (B : Bas) (P : Nat → Nat) (khas kw kh kn : Int32) (kwl kk kat ks ky kg : Nat → Int32) : Prop := khas = 1 ∧ kw = nI (bw B) ∧ kh = nI (bh B) ∧ kn = nI (bn B) ∧ rfW B kwl ∧ rfB B kk ks ky ∧ chP B P kat ∧ chG B kg
theorem fb_c {B : Bas} {b : Nat} (h : basOk B) (hb : b < bn B) : f_BargeBasin_faultOfBarge (nI b) (nI (bw B)) (nI (bn B)) = some 0 := by
  have := h.2.2.2.2.1
  unfold f_BargeBasin_faultOfBarge
  rw [ev_b _ (noBas h), if_pos rfl, if_neg (nI_pos (by omega)), if_pos (nI_lt hb (by omega))]
theorem fb_cn {B : Bas} {x : Int32} (h : basOk B) (hx : x < 0 ∨ nI (bn B) ≤ x) : f_BargeBasin_faultOfBarge x (nI (bw B)) (nI (bn B)) = some 2 := by
  unfold f_BargeBasin_faultOfBarge
  rw [ev_b _ (noBas h), if_pos rfl]
  by_cases c : x < 0
  · rw [if_pos c]
  · rw [if_neg c, if_neg]
    rcases hx with z | z
    · exact absurd z c
    · intro y
      rw [Int32.lt_iff_toInt_lt] at y
      rw [Int32.le_iff_toInt_le] at z
      omega
theorem ib_c {B : Bas} {b : Nat} (h : basOk B) (hb : b < bn B) : f_BargeBasinModel_isBarge (nI b) (nI (bn B)) = some 1 := by
  have := h.2.2.2.2.1
  unfold f_BargeBasinModel_isBarge
  rw [if_neg (nI_pos (by omega)), if_neg (nI_ge hb (by omega))]
theorem ib_cn {B : Bas} {x : Int32} (hx : x < 0 ∨ nI (bn B) ≤ x) : f_BargeBasinModel_isBarge x (nI (bn B)) = some 0 := by
  unfold f_BargeBasinModel_isBarge
  by_cases c : x < 0
  · rw [if_pos c]
  · rw [if_neg c, if_pos]
    rcases hx with z | z
    · exact absurd z c
    · exact z
/-- at the end of the way something hinders, even behind seven steps -/
theorem room_stop {B : Bas} {P : Nat → Nat} {b d : Nat} {bk : Bool} (h : basOk B) (hs : stOk B P) (hb : b < bn B) (hd : d < 4) : hnd B P b d (nxtk d (P b) (room B P b d bk)) bk ≠ 0 := by
  intro z
  have r7 := room_le (B := B) (P := P) (b := b) (d := d) (bk := bk)
  rcases roomA_end (hn := fun q => hnd B P b d q bk) (d := d) (m := 7) (q := P b) with e | e
  · have e7 : room B P b d bk = 7 := e
    obtain ⟨x1, y1⟩ := room_xy (bk := bk) h hs hb hd (k := 7) (by omega)
    rw [e7] at z
    obtain ⟨a1, a2, a3, a4, a5, a6, a7, a8⟩ := basOk_wh h hb
    obtain ⟨g, -⟩ := hnd_0 h hb hd z
    obtain ⟨g1, g2, g3, g4, g5⟩ := goIn_t h.2.1 h.2.2.2.1 a4 a6 hd g
    have i1 := hs.1 b hb
    have w8 := h.2.1
    have h8 := h.2.2.2.1
    have : d = 0 ∨ d = 1 ∨ d = 2 ∨ d = 3 := by omega
    rcases this with q | q | q | q <;> subst q <;> simp [dxI, dyI] at x1 y1 g4 g5 <;> omega
  · exact e z
theorem m_roomL52 {B : Bas} {P : Nat → Nat} {b d : Nat} {kwl kk ks ky : Nat → Int32} (h : basOk B) (hs : stOk B P) (hr : rfB B kk ks ky) (hwl : rfW B kwl) (hb : b < bn B) (hd : d < 4) :
    ∀ (r k n : Nat) (kwho kh : Nat → Int32), k + r = room B P b d false → r < n → rfO B (updN P b (nxtk d (P b) k)) kwho → chP B (updN P b (nxtk d (P b) k)) kh →
      ∃ kwho' kh', f_BargeBasinModel_room_L52 (nI b) (nI d) (nI (bw B)) (nI (bh B)) kwl kk ks ky n (nI k) kwho kh = some (nI (room B P b d false), kwho', kh') := by
  have r7 := room_le (B := B) (P := P) (b := b) (d := d) (bk := false)
  intro r
  induction r with
  | zero =>
    intro k n kwho kh h1 h2 h3 h4
    obtain ⟨n, rfl⟩ : ∃ z, n = z + 1 := ⟨n - 1, by omega⟩
    have hk : k = room B P b d false := by omega
    subst hk
    have s1 := (room_st (bk := false) h hs hb hd (Nat.le_refl _)).1
    have ne : hnd B (updN P b (nxtk d (P b) (room B P b d false))) b d (updN P b (nxtk d (P b) (room B P b d false)) b) false ≠ 0 := by
      rw [hnd_upd, updN_s]; exact room_stop h hs hb hd
    have lt := hnd_lt (B := B) (P := updN P b (nxtk d (P b) (room B P b d false))) (b := b) (d := d) (q := updN P b (nxtk d (P b) (room B P b d false)) b) (bk := false)
    exact ⟨kwho, kh, by rw [f_BargeBasinModel_room_L52, ev_b _ (m_hnd h s1 hr hwl h3 h4 hb hd), if_neg (nI_ne0 (by omega) (by omega))]⟩
  | succ r ih =>
    intro k n kwho kh h1 h2 h3 h4
    obtain ⟨n, rfl⟩ : ∃ z, n = z + 1 := ⟨n - 1, by omega⟩
    have s1 := (room_st (bk := false) h hs hb hd (k := k) (by omega)).1
    have w0 : hnd B (updN P b (nxtk d (P b) k)) b d (updN P b (nxtk d (P b) k) b) false = 0 := by
      rw [hnd_upd, updN_s]
      exact room_way (by omega)
    obtain ⟨kwho1, e1, o1⟩ := m_step h s1 hr h3 h4 hb hd w0
    have pos : updN (updN P b (nxtk d (P b) k)) b (nxt d (updN P b (nxtk d (P b) k) b)) = updN P b (nxtk d (P b) (k + 1)) := by rw [updN_two, updN_s, nxtk_s]
    rw [pos] at o1
    have c1 : chP B (updN P b (nxtk d (P b) (k + 1))) (upd kh b (nI (nxt d (updN P b (nxtk d (P b) k) b)))) := by
      rw [← pos]; exact chP_upd h4
    obtain ⟨kw2, kh2, e2⟩ := ih (k + 1) n kwho1 _ (by omega) (by omega) o1 c1
    exact ⟨kw2, kh2, by rw [f_BargeBasinModel_room_L52, ev_b _ (m_hnd h s1 hr hwl h3 h4 hb hd), w0, nI_0, if_pos rfl, ev_b _ e1, un2_ap, ev_bnd, nI_1, e2]⟩
theorem eq_room {B : Bas} {P : Nat → Nat} {cw chh cn : Int32} {cwl ct : Int64} {ck cp cl cg ca cwd chg : Nat → Int32} {cs : Nat → Int64} {khas kw kh kn : Int32} {kwl kk kat ks ky kg : Nat → Int32} (h : basOk B) (hP : stC B P) (hc : chX B P cw chh cn cwl ct ck cp cl cg ca cwd chg cs) (hr : rfX B P khas kw kh kn kwl kk kat ks ky kg) (v1 v2 st st2 th : Int32) (kwho khe : Nat → Int32) :
    ∃ ans st' kwho' khe', f_BargeBasin_room v1 v2 st cw chh cn cwl ct ck cp ca cwd chg cs = some (ans, st') ∧ f_BargeBasinModel_room v1 v2 st2 th khas kw kh kn kwl kk kat ks ky kwho khe = some (ans, st', 0, kwho', khe') := by
  obtain ⟨c1, c2, c3, c4, c5, c6, c7, c8, c9⟩ := hc
  obtain ⟨r1, r2, r3, r4, r5, r6, r7, r8⟩ := hr
  subst c1; subst c2; subst c3; subst r1; subst r2; subst r3; subst r4
  have n12 := h.2.2.2.2.1
  unfold f_BargeBasin_room f_BargeBasinModel_room
  rw [if_neg (show ¬ (1 : Int32) = 0 by decide)]
  have bad : ∀ v1, (v1 < 0 ∨ nI (bn B) ≤ v1) ∨ (∃ b, b < bn B ∧ v1 = nI b) := by
    intro v
    rcases pk_ix v (show bn B < 2 ^ 31 by omega) with z | z | z
    · exact Or.inl (Or.inl z)
    · exact Or.inl (Or.inr z)
    · exact Or.inr z
  rcases bad v1 with z | ⟨b, hb, z⟩
  · rw [ev_b _ (fb_cn h z), ev_b _ (ib_cn z), if_neg (show ¬ (2 : Int32) = 0 by decide), if_pos rfl]
    exact ⟨-1, 2, kwho, khe, rfl, rfl⟩
  · subst z
    rw [ev_b _ (fb_c h hb), ev_b _ (ib_c h hb), if_pos rfl, if_neg (show ¬ (1 : Int32) = 0 by decide)]
    rcases pk_ix v2 (show 4 < 2 ^ 31 by decide) with z | z | ⟨d, hd, z⟩
    · rw [if_pos z, if_pos z]
      exact ⟨-1, 2, kwho, khe, rfl, rfl⟩
    · have a1 : ¬ v2 < 0 := fun y => by
        rw [Int32.lt_iff_toInt_lt] at y
        rw [Int32.le_iff_toInt_le] at z
        have : (nI 4).toInt = 4 := by decide
        have : (0 : Int32).toInt = 0 := rfl
        omega
      have a2 : ¬ v2 < 4 := fun y => by
        rw [Int32.lt_iff_toInt_lt] at y
        rw [Int32.le_iff_toInt_le] at z
        have : (nI 4).toInt = (4 : Int32).toInt := rfl
        omega
      have a3 : ¬ v2 ≤ 3 := fun y => by
        rw [Int32.le_iff_toInt_le] at y z
        have : (nI 4).toInt = 4 := by decide
        have : (3 : Int32).toInt = 3 := by decide
        omega
      rw [if_neg a1, if_neg a2, if_neg a1, if_neg a3]
      exact ⟨-1, 2, kwho, khe, rfl, rfl⟩
    · subst z
      obtain ⟨kw1, kh1, e1, o1, p1⟩ := m_layAllB h hP.1.1 r6 r7 kwho khe
      have z0 : updN P b (nxtk d (P b) 0) = P := updN_self
      obtain ⟨kw2, kh2, e2⟩ := m_roomL52 h hP.1 r6 r5 hb hd (room B P b d false) 0 jN kw1 kh1 (by omega) (by have := room_le (B := B) (P := P) (b := b) (d := d) (bk := false); show _ < 2000000; omega) (by rw [z0]; exact o1) (by rw [z0]; exact p1)
      rw [nI_0] at e2
      have sf := s_stepsFrom (bk := false) h hP.1 c6 c7 c5 c4 hb hd
      rw [show bI false = (0 : Int32) from rfl] at sf
      rw [if_neg (nI_pos (by omega)), if_pos (show nI d < 4 from nI_lt (b := 4) hd (by decide)), ev_b _ sf, if_neg (nI_pos (by omega)), if_pos (show nI d ≤ 3 from nI_le (b := 3) (by omega) (by decide)), ev_b _ e1, un2_ap, ev_b _ e2, un3_ap]
      exact ⟨_, 0, kw2, kh2, rfl, rfl⟩
/-! firstIn: the first barge but one in some fields. -/
def fstI (n : Nat) (p : Nat → Bool) (o : Option Nat) : Prop := (∀ b, o = some b → b < n ∧ p b = true ∧ ∀ c, c < b → p c = false) ∧ (o = none → ∀ c, c < n → p c = false)
theorem fst_u {n : Nat} {p : Nat → Bool} {o o' : Option Nat} (h1 : fstI n p o) (h2 : fstI n p o') : o = o' := by
  cases o with
  | none =>
    cases o' with
    | none => rfl
    | some b =>
      obtain ⟨q1, q2, -⟩ := h2.1 b rfl
      rw [h1.2 rfl b q1] at q2; cases q2
  | some a =>
    obtain ⟨p1, p2, p3⟩ := h1.1 a rfl
    cases o' with
    | none => rw [h2.2 rfl a p1] at p2; cases p2
    | some b =>
      obtain ⟨q1, q2, q3⟩ := h2.1 b rfl
      rcases Nat.lt_trichotomy a b with z | z | z
      · rw [q3 a z] at p2; cases p2
      · rw [z]
      · rw [p3 b z] at q2; cases q2
theorem s_firstIn {B : Bas} {P : Nat → Nat} {x : Int64} {but : Option Nat} {kk ka kw kh kp : Nat → Int32} {ks : Nat → Int64} (h : basOk B) (hi : insA B P) (hc : chB B kk ka kw kh ks) (hp : chP B P kp) (hbut : ∀ b, but = some b → b < 12) :
    ∃ o, f_Chart_firstIn x (oI but) (nI (bn B)) kp ks = some (oI o) ∧ fstI (bn B) (fun b => decide (¬ but = some b) && anyF (fun f => fbA B P b f && tb x f)) o := by
  have n12 := h.2.2.2.2.1
  have loop : ∀ (r b n : Nat), b + r = bn B → r < n → (∀ c, c < b → (decide (¬ but = some c) && anyF (fun f => fbA B P c f && tb x f)) = false) → ∃ y, f_Chart_firstIn_L3 x (oI but) (nI (bn B)) kp ks n (nI b) = some y ∧ ((∃ c, y = .inl (nI c) ∧ c < bn B ∧ (decide (¬ but = some c) && anyF (fun f => fbA B P c f && tb x f)) = true ∧ ∀ a, a < c → (decide (¬ but = some a) && anyF (fun f => fbA B P a f && tb x f)) = false) ∨ (y = .inr () ∧ ∀ c, c < bn B → (decide (¬ but = some c) && anyF (fun f => fbA B P c f && tb x f)) = false)) := by
    intro r
    induction r with
    | zero =>
      intro b n h1 h2 h3
      obtain ⟨n, rfl⟩ : ∃ z, n = z + 1 := ⟨n - 1, by omega⟩
      exact ⟨.inr (), by rw [f_Chart_firstIn_L3, if_pos (nI_le (by omega) (by omega))], Or.inr ⟨rfl, fun c hc => h3 c (by omega)⟩⟩
    | succ r ih =>
      intro b n h1 h2 h3
      obtain ⟨n, rfl⟩ : ∃ z, n = z + 1 := ⟨n - 1, by omega⟩
      have hb : b < bn B := by omega
      have ce : (nI b = oI but) = (but = some b) := by
        have q := oI_eq (o := but) (b := b) (by omega) (fun c hc => by have := hbut c hc; omega)
        exact propext ⟨fun z => q.mp z.symm, fun z => (q.mpr z).symm⟩
      obtain ⟨w, e1, t1⟩ := s_fields h hi hc hp hb
      have e0 : anyF (fun f => tb w f && tb x f) = anyF (fun f => fbA B P b f && tb x f) := anyF_cg fun f hf => by rw [t1 f hf]
      rw [f_Chart_firstIn_L3, if_neg (nI_ge hb (by omega)), ev_b _ e1]
      simp only [ce, cmp0, and0, e0, ev_bnd, nI_1]
      by_cases z : but = some b
      · rw [if_pos z]
        refine ih (b + 1) n (by omega) (by omega) (fun c hc => ?_)
        by_cases y : c = b
        · subst y; simp [z]
        · exact h3 c (by omega)
      · rw [if_neg z]
        cases ea : anyF (fun f => fbA B P b f && tb x f) with
        | false =>
          rw [if_pos rfl]
          refine ih (b + 1) n (by omega) (by omega) (fun c hc => ?_)
          by_cases y : c = b
          · subst y; rw [ea, Bool.and_false]
          · exact h3 c (by omega)
        | true =>
          rw [if_neg (by decide)]
          exact ⟨_, rfl, Or.inl ⟨b, rfl, hb, by rw [ea]; simp [z], h3⟩⟩
  obtain ⟨y, e, q⟩ := loop (bn B) 0 jN (by omega) (by show bn B < 2000000; omega) (fun c hc => by omega)
  rw [nI_0] at e
  unfold f_Chart_firstIn
  rw [ev_b _ e]
  rcases q with ⟨c, q1, q2, q3, q4⟩ | ⟨q1, q2⟩
  · exact ⟨some c, by rw [q1, jsel_l]; rfl, fun b hb => by cases hb; exact ⟨q2, q3, q4⟩, fun z => by cases z⟩
  · exact ⟨none, by rw [q1, jsel_r, un0_ap]; rfl, fun b hb => by (cases hb), fun _ => q2⟩
theorem fst_who {B : Bas} {P : Nat → Nat} {f : Nat} (ha : apA B P) (hf : f < 64) : fstI (bn B) (fun b => fbA B P b f) (whoN (fbA B P) (bn B) f) := by
  refine ⟨fun b hb => ?_, fun z c hc => whoN_none.mp z c hc⟩
  have := whoN_mem hb
  refine ⟨this.1, this.2, fun c hc => ?_⟩
  rw [← Bool.not_eq_true]
  intro z
  have := ha c b f (by omega) this.1 hf z this.2
  omega
/-- a field's number from x and y -/
theorem fld {B : Bas} {v1 v2 : Int32} (h : basOk B) : (∃ x y, x < bw B ∧ y < bh B ∧ v1 = nI x ∧ v2 = nI y ∧ f_BargeBasin_isNoField v1 v2 (nI (bw B)) (nI (bh B)) = some 0 ∧ f_BargeBasinModel_isField v1 v2 (nI (bw B)) (nI (bh B)) = some 1) ∨
    ((¬ (0 ≤ v1.toInt ∧ v1.toInt < bw B ∧ 0 ≤ v2.toInt ∧ v2.toInt < bh B)) ∧ f_BargeBasin_isNoField v1 v2 (nI (bw B)) (nI (bh B)) = some 1 ∧ f_BargeBasinModel_isField v1 v2 (nI (bw B)) (nI (bh B)) = some 0) := by
  have w8 := h.2.1
  have h8 := h.2.2.2.1
  have hf := m_isField (x := v1) (y := v2) w8 h8
  have z0 : (0 : Int32).toInt = 0 := rfl
  have nf : f_BargeBasin_isNoField v1 v2 (nI (bw B)) (nI (bh B)) = some (bI (decide (¬ (0 ≤ v1.toInt ∧ v1.toInt < bw B ∧ 0 ≤ v2.toInt ∧ v2.toInt < bh B)))) := by
    unfold f_BargeBasin_isNoField f_BargeBasin_isNoLine
    simp only [Int32.lt_iff_toInt_lt, Int32.le_iff_toInt_le, nI_toInt (show bw B < 2 ^ 31 by omega), nI_toInt (show bh B < 2 ^ 31 by omega), z0]
    by_cases h1 : v1.toInt < 0
    · rw [if_pos h1, decide_eq_true (by omega)]; rfl
    · rw [if_neg h1]
      by_cases h2 : (bw B : Int) ≤ v1.toInt
      · rw [if_pos h2, decide_eq_true (by omega)]; rfl
      · rw [if_neg h2]
        by_cases h3 : v2.toInt < 0
        · rw [if_pos h3, decide_eq_true (by omega)]; rfl
        · rw [if_neg h3]
          by_cases h4 : v2.toInt < (bh B : Int)
          · rw [if_pos h4, decide_eq_false (by omega)]; rfl
          · rw [if_neg h4, decide_eq_true (by omega)]; rfl
  by_cases c : 0 ≤ v1.toInt ∧ v1.toInt < bw B ∧ 0 ≤ v2.toInt ∧ v2.toInt < bh B
  · obtain ⟨c1, c2, c3, c4⟩ := c
    obtain ⟨x, hx, ex⟩ := nI_of (x := v1) (fun z => by rw [Int32.lt_iff_toInt_lt, z0] at z; omega)
    obtain ⟨y, hy, ey⟩ := nI_of (x := v2) (fun z => by rw [Int32.lt_iff_toInt_lt, z0] at z; omega)
    rw [ex, nI_toInt hx] at c2
    rw [ey, nI_toInt hy] at c4
    refine Or.inl ⟨x, y, by omega, by omega, ex, ey, ?_, ?_⟩
    · rw [nf, decide_eq_false (by rw [ex, ey, nI_toInt hx, nI_toInt hy]; omega)]; rfl
    · rw [hf, decide_eq_true (by rw [ex, ey, nI_toInt hx, nI_toInt hy]; omega)]; rfl
  · exact Or.inr ⟨c, by rw [nf, decide_eq_true c]; rfl, by rw [hf, decide_eq_false c]; rfl⟩
theorem s_isWall {B : Bas} {x y : Nat} {kwl : Int64} (h : basOk B) (hw : chW B kwl) (hx : x < 8) (hy : y < 8) : f_Chart_isWall (nI x) (nI y) kwl = some (bI (bwl B (x + 8 * y))) := by
  have e : (8 : Int32) * nI y + nI x = nI (x + 8 * y) := by rw [i8, nI_add, Nat.add_comm]
  unfold f_Chart_isWall
  rw [e]
  simp only [cmp0, and0]
  have a : anyF (fun f => tb (jlushr kwl (nI (x + 8 * y))) f && tb 1 f) = bwl B (x + 8 * y) := by
    rw [← hw _ (show x + 8 * y < 64 by omega), Bool.eq_iff_iff, anyF_t]
    constructor
    · rintro ⟨f, hf, q⟩
      rw [Bool.and_eq_true, tb_shr (by omega), tb_1, decide_eq_true_eq] at q
      rw [q.2, Nat.add_zero] at q
      exact q.1
    · intro q
      exact ⟨0, by decide, by rw [tb_shr (by omega), tb_1, Nat.add_zero, q]; rfl⟩
  rw [a]
  cases bwl B (x + 8 * y) <;> rfl
theorem s_signAt {B : Bas} {P : Nat → Nat} {x y : Nat} {kwl : Int64} {kk ka kw kh kp : Nat → Int32} {ks : Nat → Int64} (h : basOk B) (hs : stOk B P) (hc : chB B kk ka kw kh ks) (hp : chP B P kp) (hw : chW B kwl) (hx : x < 8) (hy : y < 8) :
    f_Chart_signAt (nI x) (nI y) (nI (bn B)) kwl kp ks = some (if bwl B (x + 8 * y) = true then -2 else match whoN (fbA B P) (bn B) (x + 8 * y) with | some b => nI b | none => -3) := by
  have e : (8 : Int32) * nI y + nI x = nI (x + 8 * y) := by rw [i8, nI_add, Nat.add_comm]
  have n12 := h.2.2.2.2.1
  obtain ⟨o, e1, f1⟩ := s_firstIn (x := jlshl 1 (nI (x + 8 * y))) (but := none) h hs.1 hc hp (fun b hb => by cases hb)
  have f2 : fstI (bn B) (fun b => fbA B P b (x + 8 * y)) o := by
    have : (fun b => decide (¬ (none : Option Nat) = some b) && anyF (fun f => fbA B P b f && tb (jlshl 1 (nI (x + 8 * y))) f)) = (fun b => fbA B P b (x + 8 * y)) := by
      funext b
      rw [Bool.eq_iff_iff, Bool.and_eq_true, anyF_t]
      constructor
      · rintro ⟨-, f, hf, q⟩
        rw [tb_one (by omega), Bool.and_eq_true, decide_eq_true_eq] at q
        rw [← q.2]; exact q.1
      · intro q
        exact ⟨by simp, x + 8 * y, by omega, by rw [tb_one (by omega), q]; simp⟩
    rw [this] at f1
    exact f1
  have eo := fst_u f2 (fst_who hs.2.1 (show x + 8 * y < 64 by omega))
  unfold f_Chart_signAt
  rw [ev_b _ (s_isWall h hw hx hy), e]
  cases bwl B (x + 8 * y) with
  | true => rfl
  | false =>
    rw [if_pos (show bI false = 0 by decide), ev_b _ (show f_Chart_firstIn (jlshl 1 (nI (x + 8 * y))) (-1) (nI (bn B)) kp ks = _ from e1), if_neg (show ¬ false = true by decide), ← eo]
    cases o with
    | none => rfl
    | some b =>
      have := (f2.1 b rfl).1
      rw [show oI (some b) = nI b from rfl, if_pos (nI_pos' (by omega))]
theorem eq_field {B : Bas} {P : Nat → Nat} {cw chh cn : Int32} {cwl ct : Int64} {ck cp cl cg ca cwd chg : Nat → Int32} {cs : Nat → Int64} {khas kw kh kn : Int32} {kwl kk kat ks ky kg : Nat → Int32} (h : basOk B) (hP : stC B P) (hc : chX B P cw chh cn cwl ct ck cp cl cg ca cwd chg cs) (hr : rfX B P khas kw kh kn kwl kk kat ks ky kg) (v1 v2 st st2 th : Int32) (kwho khe : Nat → Int32) :
    ∃ ans st' kwho' khe', f_BargeBasin_field v1 v2 st cw chh cn cwl cp cs = some (ans, st') ∧ f_BargeBasinModel_field v1 v2 st2 th khas kw kh kn kwl kk kat ks ky kwho khe = some (ans, st', 0, kwho', khe') := by
  obtain ⟨c1, c2, c3, c4, c5, c6, c7, c8, c9⟩ := hc
  obtain ⟨r1, r2, r3, r4, r5, r6, r7, r8⟩ := hr
  subst c1; subst c2; subst c3; subst r1; subst r2; subst r3; subst r4
  have n12 := h.2.2.2.2.1
  have w8 := h.2.1
  have h8 := h.2.2.2.1
  unfold f_BargeBasin_field f_BargeBasinModel_field
  rw [if_neg (show ¬ (1 : Int32) = 0 by decide), ev_b _ (noBas h), if_pos rfl]
  rcases fld (v1 := v1) (v2 := v2) h with ⟨x, y, hx, hy, ex, ey, f1, f2⟩ | ⟨-, f1, f2⟩
  · obtain ⟨kw1, kh1, e1, o1, p1⟩ := m_layAllB h hP.1.1 r6 r7 kwho khe
    have e : nI x + (8 : Int32) * nI y = nI (x + 8 * y) := by rw [i8, nI_add]
    rw [ev_b _ f1, ev_b _ f2, if_pos rfl, if_neg (show ¬ (1 : Int32) = 0 by decide)]
    subst ex; subst ey
    rw [ev_b _ (s_signAt h hP.1 c6 c7 c4 (by omega) (by omega)), ev_b _ e1, un2_ap, e, ev_grdN _ (show x + 8 * y < 64 by omega) (by decide), ev_grdN _ (show x + 8 * y < 64 by omega) (by decide), ev_grdN _ (show x + 8 * y < 64 by omega) (by decide), nI_clamp (show x + 8 * y < 2 ^ 31 by omega), r5 _ (show x + 8 * y < 64 by omega), o1 _ (show x + 8 * y < 64 by omega)]
    cases bwl B (x + 8 * y) with
    | true => exact ⟨-2, 0, kw1, kh1, rfl, rfl⟩
    | false =>
      rw [if_neg (show ¬ false = true by decide), if_pos (show bI false = 0 by decide)]
      cases eo : whoN (fbA B P) (bn B) (x + 8 * y) with
      | none => exact ⟨-3, 0, kw1, kh1, rfl, rfl⟩
      | some b =>
        have := (whoN_mem eo).1
        rw [if_neg (show ¬ oI (some b) < 0 from nI_pos (by omega))]
        exact ⟨nI b, 0, kw1, kh1, rfl, rfl⟩
  · rw [ev_b _ f1, ev_b _ f2, if_neg (show ¬ (1 : Int32) = 0 by decide), if_pos rfl]
    exact ⟨-1, 2, kwho, khe, rfl, rfl⟩
