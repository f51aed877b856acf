/-! A step of the reference; the class's shift and stepsFrom; moves as numbers 32 b + 8 d + k. -/
theorem geo_st : ∀ q, q < 64 → ∀ d, d < 4 → 0 ≤ ((q % 8 : Nat) : Int) + dxI d → 0 ≤ ((q / 8 : Nat) : Int) + dyI d → nI q + (rI d + 8 * dI d) = nI (nxt d q) := by decide +kernel
theorem lay_who {B : Bas} {P : Nat → Nat} {b q : Nat} {kwho : Nat → Int32} (hs : stOk B P) (hs2 : stOk B (updN P b q)) (hb : b < bn B) (ho : rfO B P kwho) :
    rfO B (updN P b q) (fun f => if inB (q % 8) (q / 8) (xW B b) (xH B b) f then nI b else if inB (P b % 8) (P b / 8) (xW B b) (xH B b) f then -1 else kwho f) := by
  intro f hf
  have own : fbA B (updN P b q) b f = inB (q % 8) (q / 8) (xW B b) (xH B b) f := by unfold fbA; rw [updN_s]
  show (if inB (q % 8) (q / 8) (xW B b) (xH B b) f = true then nI b else if fbA B P b f = true then -1 else kwho f) = _
  rw [← own]
  by_cases h1 : fbA B (updN P b q) b f = true
  · rw [if_pos h1, (whoN_some hs2.2.1 hf).mpr ⟨hb, h1⟩]; rfl
  · rw [if_neg h1]
    by_cases h2 : fbA B P b f = true
    · rw [if_pos h2]
      have : whoN (fbA B (updN P b q)) (bn B) f = none := by
        rw [whoN_none]
        intro c hc
        by_cases e : c = b
        · subst e; exact Bool.eq_false_iff.mpr h1
        · rw [fb_un e, ← Bool.not_eq_true]
          exact fun z => e (hs.2.1 c b f hc hb hf z h2)
      rw [this]; rfl
    · rw [if_neg h2, ho f hf]
      refine congrArg oI ?_
      cases e : whoN (fbA B P) (bn B) f with
      | none =>
        symm
        rw [whoN_none] at e ⊢
        intro c hc
        by_cases e2 : c = b
        · subst e2; exact Bool.eq_false_iff.mpr h1
        · rw [fb_un e2]; exact e c hc
      | some c =>
        have m := whoN_mem e
        symm
        rw [whoN_some hs2.2.1 hf]
        refine ⟨m.1, ?_⟩
        have : c ≠ b := fun z => h2 (by rw [← z]; exact m.2)
        rw [fb_un this]; exact m.2
theorem m_layB {B : Bas} {b q : Nat} {v : Int32} {kk ks ky : Nat → Int32} (h : basOk B) (hr : rfB B kk ks ky) (hb : b < bn B) (h1 : q % 8 + xW B b ≤ bw B) (h2 : q / 8 + xH B b ≤ bh B) (kw : Nat → Int32) :
    f_BargeBasinModel_lay (nI b) (nI q) v kk ks ky kw = some (fun f => if inB (q % 8) (q / 8) (xW B b) (xH B b) f then v else kw f) := by
  obtain ⟨r1, r2, r3⟩ := hr b hb
  obtain ⟨a1, a2, a3, -, -, -, -, -⟩ := basOk_wh h hb
  have := h.2.1
  have := h.2.2.2.1
  exact m_lay a1 r1 r2 r3 a2 a3 (show q % 8 + xW B b ≤ 8 by omega) (show q / 8 + xH B b ≤ 8 by omega) kw
theorem chP_upd {B : Bas} {P : Nat → Nat} {b q : Nat} {kp : Nat → Int32} (hp : chP B P kp) : chP B (updN P b q) (upd kp b (nI q)) := by
  intro c hc
  by_cases e : c = b
  · subst e; rw [pk_us, updN_s]
  · rw [pk_un e, updN_n e]; exact hp c hc
theorem m_step {B : Bas} {P : Nat → Nat} {b d : Nat} {kk ks ky kwho kh : Nat → Int32} (h : basOk B) (hs : stOk B P) (hr : rfB B kk ks ky) (ho : rfO B P kwho) (hp : chP B P kh) (hb : b < bn B) (hd : d < 4) (h0 : hnd B P b d (P b) false = 0) :
    ∃ kwho', f_BargeBasinModel_step (nI b) (nI d) kk ks ky kwho kh = some (kwho', upd kh b (nI (nxt d (P b)))) ∧ rfO B (updN P b (nxt d (P b))) kwho' := by
  obtain ⟨a1, a2, a3, a4, a5, a6, a7, a8⟩ := basOk_wh h hb
  obtain ⟨s2, n64⟩ := stOk_step h hs hb hd h0
  obtain ⟨g, -⟩ := hnd_0 h hb hd h0
  obtain ⟨g1, g2, g3, g4, g5⟩ := goIn_t h.2.1 h.2.2.2.1 a4 a6 hd g
  have i1 := hs.1 b hb
  refine ⟨_, ?_, lay_who hs s2 hb ho⟩
  unfold f_BargeBasinModel_step
  rw [ev_grdN _ a1 (by decide), cl_nI a1, hp b hb, ev_b _ (m_layB h hr hb i1.1 i1.2 _), ev_grdN _ a1 (by decide), ev_b _ (m_right d hd), ev_b _ (m_down d hd), ev_bnd, ev_grdN _ a1 (by decide), ev_grdN _ a1 (by decide), geo_st _ (ins_64 h hs.1 hb) d hd (by omega) (by omega), pk_us, ev_b _ (m_layB h hr hb g2 g3 _)]
/-- shift: to the place q -/
theorem s_shift {B : Bas} {P : Nat → Nat} {b d q : Nat} {v : Int32} {kt : Int64} {kk ka kw kh kp : Nat → Int32} {ks : Nat → Int64} (h : basOk B) (hs : stOk B P) (hs2 : stOk B (updN P b q)) (hc : chB B kk ka kw kh ks) (hp : chP B P kp) (ht : chT B P kt) (hb : b < bn B) (hd : d < 4)
    (hv : nI (P b) + v * sv_STEP d = nI q) : ∃ kt', f_Chart_shift (nI b) (nI d) v kt kp ks = some (kt', upd kp b (nI q)) ∧ chT B (updN P b q) kt' ∧ chP B (updN P b q) (upd kp b (nI q)) := by
  obtain ⟨a1, a2, a3, a4, a5, a6, a7, a8⟩ := basOk_wh h hb
  obtain ⟨x, hx, tx⟩ := s_fields h hs.1 hc hp hb
  obtain ⟨x2, hx2, tx2⟩ := s_fields h hs2.1 hc (chP_upd (q := q) hp) hb
  refine ⟨(kt &&& (x ^^^ (-1))) ||| x2, ?_, ?_, chP_upd hp⟩
  · unfold f_Chart_shift
    rw [ev_b _ hx, ev_bnd, ev_grdN _ a1 (by decide), ev_grdN _ hd (by decide), ev_bnd, ev_grdN _ a1 (by decide), cl_nI a1, nI_clamp (show d < 2 ^ 31 by omega), hp b hb, hv, ev_b _ hx2, ev_bnd]
  · intro f hf
    rw [tb_or, tb_and, tb_not hf, tx f hf, tx2 f hf, ht f hf, tk_ot hs.2.1 hb hf, Bool.eq_iff_iff, Bool.or_eq_true, otA_t, tkA_t]
    constructor
    · rintro (⟨c, h1, h2, h3⟩ | h1)
      · exact ⟨c, h1, by rw [fb_un h2]; exact h3⟩
      · exact ⟨b, hb, h1⟩
    · rintro ⟨c, h1, h2⟩
      by_cases e : c = b
      · subst e; exact Or.inr h2
      · exact Or.inl ⟨c, h1, e, by rw [← fb_un e]; exact h2⟩
/-! How far a barge goes. -/
def roomA (hn : Nat → Nat) (d : Nat) : Nat → Nat → Nat
  | 0, _ => 0
  | m + 1, q => if hn q = 0 then roomA hn d m (nxt d q) + 1 else 0
def nxtk (d q : Nat) : Nat → Nat
  | 0 => q
  | k + 1 => nxtk d (nxt d q) k
def room (B : Bas) (P : Nat → Nat) (b d : Nat) (bk : Bool) : Nat := roomA (fun q => hnd B P b d q bk) d 7 (P b)
theorem roomA_le {hn : Nat → Nat} {d : Nat} : ∀ {m q : Nat}, roomA hn d m q ≤ m
  | 0, _ => Nat.le_refl _
  | m + 1, q => by
    unfold roomA
    split
    · have := roomA_le (hn := hn) (d := d) (m := m) (q := nxt d q); omega
    · omega
theorem nxtk_s (d : Nat) : ∀ (k q : Nat), nxtk d q (k + 1) = nxt d (nxtk d q k)
  | 0, q => rfl
  | k + 1, q => nxtk_s d k (nxt d q)
/-- along the way nothing hinders -/
theorem roomA_way {hn : Nat → Nat} {d : Nat} : ∀ {m q k : Nat}, k < roomA hn d m q → hn (nxtk d q k) = 0
  | 0, q, k, h => by unfold roomA at h; omega
  | m + 1, q, k, h => by
    unfold roomA at h
    by_cases z : hn q = 0
    · rw [if_pos z] at h
      cases k with
      | zero => exact z
      | succ k => exact roomA_way (m := m) (q := nxt d q) (k := k) (by omega)
    · rw [if_neg z] at h; omega
/-- and at its end something does, or it is m long -/
theorem roomA_end {hn : Nat → Nat} {d : Nat} : ∀ {m q : Nat}, roomA hn d m q = m ∨ hn (nxtk d q (roomA hn d m q)) ≠ 0
  | 0, q => Or.inl rfl
  | m + 1, q => by
    unfold roomA
    by_cases z : hn q = 0
    · rw [if_pos z]
      rcases roomA_end (hn := hn) (d := d) (m := m) (q := nxt d q) with h | h
      · exact Or.inl (by rw [h])
      · exact Or.inr h
    · rw [if_neg z]; exact Or.inr z
theorem room_le {B : Bas} {P : Nat → Nat} {b d : Nat} {bk : Bool} : room B P b d bk ≤ 7 := roomA_le
theorem room_way {B : Bas} {P : Nat → Nat} {b d k : Nat} {bk : Bool} (h : k < room B P b d bk) : hnd B P b d (nxtk d (P b) k) bk = 0 := roomA_way (hn := fun q => hnd B P b d q bk) h
/-- a place on the way is a stand again, and k steps away -/
theorem room_st {B : Bas} {P : Nat → Nat} {b d : Nat} {bk : Bool} (h : basOk B) (hs : stOk B P) (hb : b < bn B) (hd : d < 4) : ∀ {k : Nat}, k ≤ room B P b d bk → stOk B (updN P b (nxtk d (P b) k)) ∧ ((nxtk d (P b) k : Nat) : Int) = (P b : Int) + k * (dxI d + 8 * dyI d)
  | 0, _ => ⟨by show stOk B (updN P b (P b)); rw [updN_self]; exact hs, by show ((P b : Nat) : Int) = _; simp⟩
  | k + 1, hk => by
    obtain ⟨ih1, ih2⟩ := room_st (bk := bk) h hs hb hd (k := k) (by omega)
    have w := room_way (show k < room B P b d bk by omega)
    obtain ⟨a1, a2, a3, a4, a5, a6, a7, a8⟩ := basOk_wh h hb
    obtain ⟨g, -⟩ := hnd_0 h hb hd w
    obtain ⟨g1, g2, g3, g4, g5⟩ := goIn_t h.2.1 h.2.2.2.1 a4 a6 hd g
    have s2 := (stOk_step h hs hb hd w).1
    rw [← nxtk_s] at s2
    refine ⟨s2, ?_⟩
    rw [nxtk_s]
    have : ((k + 1 : Nat) : Int) * (dxI d + 8 * dyI d) = k * (dxI d + 8 * dyI d) + (dxI d + 8 * dyI d) := by
      rw [Int.natCast_add, Int.add_mul]; simp
    omega
theorem room_64 {B : Bas} {P : Nat → Nat} {b d k : Nat} {bk : Bool} (h : basOk B) (hs : stOk B P) (hb : b < bn B) (hd : d < 4) (hk : k ≤ room B P b d bk) : nxtk d (P b) k < 64 := by
  have := (room_st h hs hb hd hk).1
  have := ins_64 h this.1 hb
  rwa [updN_s] at this
theorem ite_lt {c : Prop} {d : Decidable c} {a e N : Nat} (h1 : a < N) (h2 : e < N) : @ite Nat c d a e < N := by
  by_cases h : c
  · rw [if_pos h]; exact h1
  · rw [if_neg h]; exact h2
theorem hnd_lt {B : Bas} {P : Nat → Nat} {b d q : Nat} {bk : Bool} : hnd B P b d q bk < 6 := by
  unfold hnd hindA
  exact ite_lt (by decide) (ite_lt (by decide) (ite_lt (by decide) (ite_lt (by decide) (ite_lt (by decide) (by decide)))))
theorem s_stepsL {B : Bas} {P : Nat → Nat} {b d : Nat} {bk : Bool} {kwl kt : Int64} {kk ka kw kh kp : Nat → Int32} {ks : Nat → Int64} (h : basOk B) (hs : stOk B P) (hc : chB B kk ka kw kh ks) (hp : chP B P kp) (ht : chT B P kt) (hwl : chW B kwl) (hb : b < bn B) (hd : d < 4) :
    ∀ (m s q n : Nat), s + m = 7 → q < 64 → m < n → f_Chart_stepsFrom_L11 (nI b) (nI d) (bI bk) (nI (bw B)) (nI (bh B)) kwl kt kk kp ka kw kh ks n (nI q) (nI s) = some (nI (s + roomA (fun q => hnd B P b d q bk) d m q)) := by
  intro m
  induction m with
  | zero =>
    intro s q n h1 h2 h3
    obtain ⟨n, rfl⟩ : ∃ z, n = z + 1 := ⟨n - 1, by omega⟩
    rw [f_Chart_stepsFrom_L11, if_pos (show (7 : Int32) ≤ nI s from nI_le (a := 7) (by omega) (by omega))]
    rfl
  | succ m ih =>
    intro s q n h1 h2 h3
    obtain ⟨n, rfl⟩ : ∃ z, n = z + 1 := ⟨n - 1, by omega⟩
    rw [f_Chart_stepsFrom_L11, if_neg (show ¬ (7 : Int32) ≤ nI s from nI_ge (b := 7) (by omega) (by decide)), ev_b _ (s_hnd h hs hc hp ht hwl hb hd h2)]
    unfold roomA
    have lt : hnd B P b d q bk < 6 := hnd_lt
    by_cases z : hnd B P b d q bk = 0
    · obtain ⟨a1, a2, a3, a4, a5, a6, a7, a8⟩ := basOk_wh h hb
      obtain ⟨g, -⟩ := hnd_0 h hb hd z
      obtain ⟨g1, g2, g3, g4, g5⟩ := goIn_t h.2.1 h.2.2.2.1 a4 a6 hd g
      rw [if_pos (show nI (hnd B P b d q bk) = 0 by rw [z]; rfl), if_pos z, ev_grdN _ hd (by decide), ev_bnd, ev_bnd, nI_clamp (show d < 2 ^ 31 by omega), geo_s q h2 d hd (by omega) (by omega), nI_1, ih (s + 1) (nxt d q) n (by omega) g1 (by omega)]
      refine congrArg some (congrArg nI ?_)
      omega
    · rw [if_neg (show ¬ nI (hnd B P b d q bk) = 0 from nI_ne0 (by omega) (by omega)), if_neg z]
      rfl
theorem s_stepsFrom {B : Bas} {P : Nat → Nat} {b d : Nat} {bk : Bool} {kwl kt : Int64} {kk ka kw kh kp : Nat → Int32} {ks : Nat → Int64} (h : basOk B) (hs : stOk B P) (hc : chB B kk ka kw kh ks) (hp : chP B P kp) (ht : chT B P kt) (hwl : chW B kwl) (hb : b < bn B) (hd : d < 4) :
    f_Chart_stepsFrom (nI b) (nI d) (bI bk) (nI (bw B)) (nI (bh B)) kwl kt kk kp ka kw kh ks = some (nI (room B P b d bk)) := by
  obtain ⟨a1, -⟩ := basOk_wh h hb
  have e := s_stepsL (bk := bk) h hs hc hp ht hwl hb hd 7 0 (P b) jN (by omega) (ins_64 h hs.1 hb) (by show 7 < 2000000; omega)
  unfold f_Chart_stepsFrom
  rw [ev_grdN _ a1 (by decide), ev_bnd, cl_nI a1, hp b hb, ev_b _ (show f_Chart_stepsFrom_L11 (nI b) (nI d) (bI bk) (nI (bw B)) (nI (bh B)) kwl kt kk kp ka kw kh ks jN (nI (P b)) 0 = _ from e)]
  unfold room
  rw [Nat.zero_add]
/-! Moves as numbers. -/
theorem s_moveOf : ∀ b, b < 12 → ∀ d, d < 4 → ∀ k, k < 8 → f_BargeBasin_moveOf (nI b) (nI d) (nI k) = some (nI (32 * b + 8 * d + k)) := by decide +kernel
theorem s_bargeOf : ∀ c, c < 400 → f_BargeBasin_bargeOf (nI c) = some (nI (c / 32)) := by decide +kernel
theorem s_dirOf : ∀ c, c < 400 → f_BargeBasin_directionOf (nI c) = some (nI (c / 8 % 4)) := by decide +kernel
theorem s_stepsOf : ∀ c, c < 400 → f_BargeBasin_stepsOf (nI c) = some (nI (c % 8)) := by decide +kernel
def mvD (B : Bas) (P : Nat → Nat) (most : Nat) (bk : Bool) (b d : Nat) : List Nat := (List.range (min most (room B P b d bk))).map fun k => 32 * b + 8 * d + (k + 1)
def mvB (B : Bas) (P : Nat → Nat) (most : Nat) (bk : Bool) (b : Nat) : List Nat := (List.range 4).flatMap fun d => mvD B P most bk b d
def mvs (B : Bas) (P : Nat → Nat) (most : Nat) (bk : Bool) : List Nat := (List.range (bn B)).flatMap fun b => mvB B P most bk b
def tgt (P : Nat → Nat) (c : Nat) : Nat → Nat := updN P (c / 32) (nxtk (c / 8 % 4) (P (c / 32)) (c % 8))
theorem mvs_mem {B : Bas} {P : Nat → Nat} {most : Nat} {bk : Bool} {c : Nat} : c ∈ mvs B P most bk ↔ ∃ b d k, b < bn B ∧ d < 4 ∧ 1 ≤ k ∧ k ≤ most ∧ k ≤ room B P b d bk ∧ c = 32 * b + 8 * d + k := by
  unfold mvs mvB mvD
  simp only [List.mem_flatMap, List.mem_map, List.mem_range]
  constructor
  · rintro ⟨b, hb, d, hd, k, hk, e⟩
    exact ⟨b, d, k + 1, hb, hd, by omega, by omega, by omega, e.symm⟩
  · rintro ⟨b, d, k, hb, hd, h1, h2, h3, e⟩
    exact ⟨b, hb, d, hd, k - 1, by omega, by omega⟩
theorem mv_code {b d k : Nat} (hd : d < 4) (hk : k < 8) : (32 * b + 8 * d + k) / 32 = b ∧ (32 * b + 8 * d + k) / 8 % 4 = d ∧ (32 * b + 8 * d + k) % 8 = k := by omega
theorem tgt_code {P : Nat → Nat} {b d k : Nat} (hd : d < 4) (hk : k < 8) : tgt P (32 * b + 8 * d + k) = updN P b (nxtk d (P b) k) := by
  obtain ⟨e1, e2, e3⟩ := mv_code (b := b) hd hk
  unfold tgt
  rw [e1, e2, e3]
theorem mvs_st {B : Bas} {P : Nat → Nat} {most c : Nat} {bk : Bool} (h : basOk B) (hs : stOk B P) (hc : c ∈ mvs B P most bk) : stOk B (tgt P c) := by
  obtain ⟨b, d, k, hb, hd, h1, h2, h3, e⟩ := mvs_mem.mp hc
  have := room_le (B := B) (P := P) (b := b) (d := d) (bk := bk)
  rw [e, tgt_code hd (by omega)]
  exact (room_st h hs hb hd h3).1
theorem mvs_400 {B : Bas} {P : Nat → Nat} {most c : Nat} {bk : Bool} (h : basOk B) (hc : c ∈ mvs B P most bk) : c < 400 := by
  obtain ⟨b, d, k, hb, hd, h1, h2, h3, e⟩ := mvs_mem.mp hc
  have := room_le (B := B) (P := P) (b := b) (d := d) (bk := bk)
  have := h.2.2.2.2.1
  omega
