/-! A basin (width, height, barges, kind, length, way, gate, walls), its barges' places, and what the two sides hold of it. -/
abbrev Bas : Type := Nat × Nat × Nat × (Nat → Nat) × (Nat → Nat) × (Nat → Nat) × (Nat → Nat) × (Nat → Bool)
def bw (B : Bas) : Nat := B.1
def bh (B : Bas) : Nat := B.2.1
def bn (B : Bas) : Nat := B.2.2.1
def bK (B : Bas) : Nat → Nat := B.2.2.2.1
def bS (B : Bas) : Nat → Nat := B.2.2.2.2.1
def bY (B : Bas) : Nat → Nat := B.2.2.2.2.2.1
def bG (B : Bas) : Nat → Nat := B.2.2.2.2.2.2.1
def bwl (B : Bas) : Nat → Bool := B.2.2.2.2.2.2.2
def xW (B : Bas) (b : Nat) : Nat := bW (bK B b) (bS B b) (bY B b)
def xH (B : Bas) (b : Nat) : Nat := bH (bK B b) (bS B b) (bY B b)
def fbA (B : Bas) (P : Nat → Nat) (b f : Nat) : Bool := inB (P b % 8) (P b / 8) (xW B b) (xH B b) f
def tkA (B : Bas) (P : Nat → Nat) (f : Nat) : Bool := (List.range (bn B)).any fun c => fbA B P c f
def otA (B : Bas) (P : Nat → Nat) (b f : Nat) : Bool := (List.range (bn B)).any fun c => decide (c ≠ b) && fbA B P c f
def hnd (B : Bas) (P : Nat → Nat) (b d q : Nat) (bk : Bool) : Nat := hindA (bw B) (bh B) (bK B b) (xW B b) (xH B b) (bY B b) (bwl B) (otA B P b) d q bk
def lenOk (k s : Nat) : Prop := ((k = 1 ∨ k = 5) ∧ 2 ≤ s ∧ s ≤ 4) ∨ (k = 3 ∧ s = 2) ∨ ((k = 2 ∨ k = 4) ∧ s = 1)
def bgOk (k s y : Nat) : Prop := lenOk k s ∧ y < 2 ∧ (y = 1 → k = 1 ∨ k = 5)
/-- the basin and the barges' kinds and lengths, wherever they lie -/
def basOk (B : Bas) : Prop := 3 ≤ bw B ∧ bw B ≤ 8 ∧ 3 ≤ bh B ∧ bh B ≤ 8 ∧ bn B ≤ 12 ∧ (∀ b, b < bn B → bgOk (bK B b) (bS B b) (bY B b)) ∧ (∀ b, b < bn B → bK B b = 5 → bG B b < 64)
def insA (B : Bas) (P : Nat → Nat) : Prop := ∀ b, b < bn B → P b % 8 + xW B b ≤ bw B ∧ P b / 8 + xH B b ≤ bh B
def apA (B : Bas) (P : Nat → Nat) : Prop := ∀ b c f, b < bn B → c < bn B → f < 64 → fbA B P b f = true → fbA B P c f = true → b = c
def nwA (B : Bas) (P : Nat → Nat) : Prop := ∀ b f, b < bn B → f < 64 → fbA B P b f = true → bwl B f = false
/-- a stand: inside, apart, on no wall -/
def stOk (B : Bas) (P : Nat → Nat) : Prop := insA B P ∧ apA B P ∧ nwA B P
theorem bgOk_wh {k s y : Nat} (h : bgOk k s y) : k < 6 ∧ y < 2 ∧ 1 ≤ bW k s y ∧ bW k s y < 5 ∧ 1 ≤ bH k s y ∧ bH k s y < 5 ∧ (k = 4 → bW k s y = 1 ∧ bH k s y = 1) := by
  obtain ⟨h1, h2, h3⟩ := h
  have hy : y = 0 ∨ y = 1 := by omega
  unfold lenOk at h1
  have hk : k = 1 ∨ k = 2 ∨ k = 3 ∨ k = 4 ∨ k = 5 := by omega
  rcases hk with e | e | e | e | e <;> subst e <;> rcases hy with e | e <;> subst e <;> simp [bW, bH] at * <;> omega
theorem basOk_wh {B : Bas} {b : Nat} (h : basOk B) (hb : b < bn B) : b < 12 ∧ bK B b < 6 ∧ bY B b < 2 ∧ 1 ≤ xW B b ∧ xW B b < 5 ∧ 1 ≤ xH B b ∧ xH B b < 5 ∧ (bK B b = 4 → xW B b = 1 ∧ xH B b = 1) :=
  ⟨by have := h.2.2.2.2.1; omega, bgOk_wh (h.2.2.2.2.2.1 b hb)⟩
theorem ins_64 {B : Bas} {P : Nat → Nat} {b : Nat} (h : basOk B) (hi : insA B P) (hb : b < bn B) : P b < 64 := by
  have h1 := basOk_wh h hb
  have h2 := hi b hb
  have h3 := h.2.2.2.1
  omega
theorem fb_w {B : Bas} {P : Nat → Nat} {b f : Nat} (hi : insA B P) (hb : b < bn B) (hf : fbA B P b f = true) : f % 8 < bw B ∧ f / 8 < bh B := by
  have h2 := hi b hb
  simp only [fbA, inB, Bool.and_eq_true, decide_eq_true_eq] at hf
  omega
theorem fb_own {B : Bas} {P : Nat → Nat} {b : Nat} (h : basOk B) (hb : b < bn B) : fbA B P b (P b) = true := by
  have h1 := basOk_wh h hb
  simp only [fbA, inB, Bool.and_eq_true, decide_eq_true_eq]
  omega
theorem otA_t {B : Bas} {P : Nat → Nat} {b f : Nat} : otA B P b f = true ↔ ∃ c, c < bn B ∧ c ≠ b ∧ fbA B P c f = true := by
  unfold otA
  simp [List.any_eq_true, List.mem_range]
theorem tkA_t {B : Bas} {P : Nat → Nat} {f : Nat} : tkA B P f = true ↔ ∃ c, c < bn B ∧ fbA B P c f = true := by
  unfold tkA
  simp [List.any_eq_true, List.mem_range]
theorem tk_ot {B : Bas} {P : Nat → Nat} {b f : Nat} (ha : apA B P) (hb : b < bn B) (hf : f < 64) : (tkA B P f && !fbA B P b f) = otA B P b f := by
  rw [Bool.eq_iff_iff, Bool.and_eq_true, tkA_t, otA_t, Bool.not_eq_true']
  constructor
  · rintro ⟨⟨c, h1, h2⟩, h3⟩
    refine ⟨c, h1, ?_, h2⟩
    intro e; subst e; rw [h2] at h3; cases h3
  · rintro ⟨c, h1, h2, h3⟩
    refine ⟨⟨c, h1, h3⟩, ?_⟩
    rw [← Bool.not_eq_true]
    exact fun z => h2 (ha c b f h1 hb hf h3 z)
/-! The class's chart. -/
def chB (B : Bas) (kk ka kw kh : Nat → Int32) (ks : Nat → Int64) : Prop := ∀ b, b < bn B → kk b = nI (bK B b) ∧ ka b = bI (decide (bY B b = 1)) ∧ kw b = nI (xW B b) ∧ kh b = nI (xH B b) ∧ ks b = shp (xW B b) (xH B b)
def chP (B : Bas) (P : Nat → Nat) (kp : Nat → Int32) : Prop := ∀ b, b < bn B → kp b = nI (P b)
def chT (B : Bas) (P : Nat → Nat) (kt : Int64) : Prop := ∀ f, f < 64 → tb kt f = tkA B P f
def chW (B : Bas) (kwl : Int64) : Prop := ∀ f, f < 64 → tb kwl f = bwl B f
theorem s_fields {B : Bas} {P : Nat → Nat} {b : Nat} {kk ka kw kh kp : Nat → Int32} {ks : Nat → Int64} (h : basOk B) (hi : insA B P) (hc : chB B kk ka kw kh ks) (hp : chP B P kp) (hb : b < bn B) : ∃ x, f_Chart_fieldsOf (nI b) kp ks = some x ∧ ∀ f, f < 64 → tb x f = fbA B P b f := by
  obtain ⟨h1, h2, h3, h4, h5, h6, h7, h8⟩ := basOk_wh h hb
  have p6 := ins_64 h hi hb
  have i1 := hi b hb
  refine ⟨_, s_fieldsOf h1 (hp b hb) (hc b hb).2.2.2.2, fun f hf => ?_⟩
  exact shp_at p6 h5 h7 (by have := h.2.1; omega) hf
theorem s_hnd {B : Bas} {P : Nat → Nat} {b d q : Nat} {bk : Bool} {kwl kt : Int64} {kk ka kw kh kp : Nat → Int32} {ks : Nat → Int64} (h : basOk B) (hs : stOk B P) (hc : chB B kk ka kw kh ks) (hp : chP B P kp) (ht : chT B P kt) (hwl : chW B kwl) (hb : b < bn B) (hd : d < 4) (hq : q < 64) :
    f_Chart_hindrance (nI b) (nI q) (nI d) (bI bk) (nI (bw B)) (nI (bh B)) kwl kt kk kp ka kw kh ks = some (nI (hnd B P b d q bk)) := by
  obtain ⟨h1, h2, h3, h4, h5, h6, h7, h8⟩ := basOk_wh h hb
  obtain ⟨c1, c2, c3, c4, c5⟩ := hc b hb
  have i1 := hs.1 b hb
  refine s_hindrance h1 hd hq (ins_64 h hs.1 hb) h.2.1 h.2.2.2.1 h2 h4 h6 h5 h7 (by have := h.2.1; omega) c1 (hp b hb) c2 c3 c4 c5 hwl ?_
  intro f hf
  rw [ht f hf]
  exact tk_ot hs.2.1 hb hf
/-! The reference: who lies where. -/
def whoN (fb : Nat → Nat → Bool) : Nat → Nat → Option Nat
  | 0, _ => none
  | n + 1, f => if fb n f then some n else whoN fb n f
theorem whoN_oI (fb : Nat → Nat → Bool) : ∀ n f, whoOf fb n f = oI (whoN fb n f)
  | 0, _ => rfl
  | n + 1, f => by
    unfold whoOf whoN
    rw [whoN_oI fb n f]
    split <;> rfl
theorem whoN_mem {fb : Nat → Nat → Bool} : ∀ {n f c : Nat}, whoN fb n f = some c → c < n ∧ fb c f = true
  | 0, f, c, h => by cases h
  | n + 1, f, c, h => by
    unfold whoN at h
    by_cases z : fb n f = true
    · rw [if_pos z] at h; cases h; exact ⟨Nat.lt_succ_self _, z⟩
    · rw [if_neg z] at h
      have := whoN_mem h
      exact ⟨by omega, this.2⟩
theorem whoN_none {fb : Nat → Nat → Bool} : ∀ {n f : Nat}, whoN fb n f = none ↔ ∀ c, c < n → fb c f = false
  | 0, f => ⟨fun _ c h => by omega, fun _ => rfl⟩
  | n + 1, f => by
    unfold whoN
    by_cases z : fb n f = true
    · rw [if_pos z]
      exact ⟨fun h => by (cases h), fun h => by rw [h n (Nat.lt_succ_self _)] at z; cases z⟩
    · rw [if_neg z, whoN_none]
      constructor
      · intro h c hc
        by_cases e : c = n
        · subst e; exact Bool.eq_false_iff.mpr z
        · exact h c (by omega)
      · exact fun h c hc => h c (by omega)
theorem whoN_some {B : Bas} {P : Nat → Nat} {f c : Nat} (ha : apA B P) (hf : f < 64) : whoN (fbA B P) (bn B) f = some c ↔ c < bn B ∧ fbA B P c f = true := by
  constructor
  · exact whoN_mem
  · rintro ⟨h1, h2⟩
    cases e : whoN (fbA B P) (bn B) f with
    | none => rw [whoN_none.mp e c h1] at h2; cases h2
    | some a =>
      have := whoN_mem e
      rw [ha a c f this.1 h1 hf this.2 h2]
theorem who_ot {B : Bas} {P : Nat → Nat} {b : Nat} (hs : stOk B P) : othOk (bw B) (bh B) b (whoN (fbA B P) (bn B)) (otA B P b) := by
  intro f hf
  constructor
  · rw [Bool.eq_iff_iff, otA_t, decide_eq_true_eq]
    constructor
    · rintro ⟨c, h1, h2, h3⟩
      rw [(whoN_some hs.2.1 hf).mpr ⟨h1, h3⟩]
      exact ⟨fun z => by (cases z), fun z => h2 (by cases z; rfl)⟩
    · rintro ⟨h1, h2⟩
      cases e : whoN (fbA B P) (bn B) f with
      | none => exact absurd e h1
      | some c =>
        have := whoN_mem e
        exact ⟨c, this.1, fun z => h2 (by rw [e, z]), this.2⟩
  · intro hn
    cases e : whoN (fbA B P) (bn B) f with
    | none => exact absurd e hn
    | some c =>
      have := whoN_mem e
      exact fb_w hs.1 this.1 this.2
def rfB (B : Bas) (kk ks ky : Nat → Int32) : Prop := ∀ b, b < bn B → kk b = nI (bK B b) ∧ ks b = nI (bS B b) ∧ ky b = nI (bY B b)
def rfW (B : Bas) (kwl : Nat → Int32) : Prop := ∀ f, f < 64 → kwl f = bI (bwl B f)
def rfO (B : Bas) (P : Nat → Nat) (kwho : Nat → Int32) : Prop := ∀ f, f < 64 → kwho f = oI (whoN (fbA B P) (bn B) f)
theorem m_hnd {B : Bas} {P : Nat → Nat} {b d : Nat} {kwl kk ks ky kwho kh : Nat → Int32} (h : basOk B) (hs : stOk B P) (hr : rfB B kk ks ky) (hwl : rfW B kwl) (ho : rfO B P kwho) (hp : chP B P kh) (hb : b < bn B) (hd : d < 4) :
    f_BargeBasinModel_hinders (nI b) (nI d) (nI (bw B)) (nI (bh B)) kwl kk ks ky kwho kh = some (nI (hnd B P b d (P b) false)) := by
  obtain ⟨h1, h2, h3, h4, h5, h6, h7, h8⟩ := basOk_wh h hb
  obtain ⟨r1, r2, r3⟩ := hr b hb
  refine m_hinders h1 hd (ins_64 h hs.1 hb) h.2.1 h.2.2.2.1 h2 h3 r1 r2 r3 (hp b hb) h4 h6 (Nat.le_of_lt (Nat.lt_trans h5 (by decide))) (Nat.le_of_lt (Nat.lt_trans h7 (by decide))) hwl ho ?_ (who_ot hs) ?_
  · intro f c e
    have := whoN_mem e
    have := h.2.2.2.2.1
    omega
  · intro k4 f hf hn e
    have m := (whoN_mem e).2
    obtain ⟨w1, w2⟩ := h8 k4
    simp only [fbA, w1, w2, inB, Bool.and_eq_true, decide_eq_true_eq] at m
    simp only [nextTo, decide_eq_true_eq] at hn
    have := ins_64 h hs.1 hb
    omega
/-! A barge moved. -/
def updN (P : Nat → Nat) (b q : Nat) : Nat → Nat := fun c => if c = b then q else P c
theorem updN_s {P : Nat → Nat} {b q : Nat} : updN P b q b = q := if_pos rfl
theorem updN_n {P : Nat → Nat} {b q c : Nat} (h : c ≠ b) : updN P b q c = P c := if_neg h
theorem updN_self {P : Nat → Nat} {b : Nat} : updN P b (P b) = P := by
  funext c
  unfold updN
  split
  · rename_i e; rw [e]
  · rfl
theorem updN_two {P : Nat → Nat} {b q r : Nat} : updN (updN P b q) b r = updN P b r := by
  funext c
  unfold updN
  split <;> rfl
theorem fb_un {B : Bas} {P : Nat → Nat} {b q c f : Nat} (h : c ≠ b) : fbA B (updN P b q) c f = fbA B P c f := by
  unfold fbA
  rw [updN_n h]
theorem ot_upd {B : Bas} {P : Nat → Nat} {b q : Nat} : otA B (updN P b q) b = otA B P b := by
  funext f
  rw [Bool.eq_iff_iff, otA_t, otA_t]
  constructor
  · rintro ⟨c, h1, h2, h3⟩
    exact ⟨c, h1, h2, by rw [← fb_un h2]; exact h3⟩
  · rintro ⟨c, h1, h2, h3⟩
    exact ⟨c, h1, h2, by rw [fb_un h2]; exact h3⟩
theorem hnd_upd {B : Bas} {P : Nat → Nat} {b d q r : Nat} {bk : Bool} : hnd B (updN P b r) b d q bk = hnd B P b d q bk := by
  unfold hnd
  rw [ot_upd]
/-- where nothing hinders, the next place is free of walls and others, and in the basin -/
theorem hnd_0 {B : Bas} {P : Nat → Nat} {b d q : Nat} {bk : Bool} (h : basOk B) (hb : b < bn B) (hd : d < 4) (h0 : hnd B P b d q bk = 0) :
    goIn (bw B) (bh B) (xW B b) (xH B b) d q = true ∧ (∀ f, f < 64 → inB (nxt d q % 8) (nxt d q / 8) (xW B b) (xH B b) f = true → bwl B f = false ∧ otA B P b f = false) := by
  unfold hnd hindA at h0
  by_cases a : (bK B b = 1 ∨ bK B b = 5) ∧ ¬ (bY B b = 1 ↔ d % 2 = 0)
  · rw [if_pos a] at h0; cases h0
  · rw [if_neg a] at h0
    by_cases g : goIn (bw B) (bh B) (xW B b) (xH B b) d q = false
    · rw [if_pos g] at h0; cases h0
    · rw [if_neg g] at h0
      by_cases h3 : anyF (fun f => inB (nxt d q % 8) (nxt d q / 8) (xW B b) (xH B b) f && bwl B f) = true
      · rw [if_pos h3] at h0; cases h0
      · rw [if_neg h3] at h0
        by_cases h4 : anyF (fun f => inB (nxt d q % 8) (nxt d q / 8) (xW B b) (xH B b) f && otA B P b f) = true
        · rw [if_pos h4] at h0; cases h0
        · refine ⟨by simpa using g, fun f hf hi => ?_⟩
          have e3 := anyF_f.mp (Bool.eq_false_iff.mpr h3) f hf
          have e4 := anyF_f.mp (Bool.eq_false_iff.mpr h4) f hf
          rw [hi, Bool.true_and] at e3 e4
          exact ⟨e3, e4⟩
theorem stOk_mv {B : Bas} {P : Nat → Nat} {b q : Nat} (hs : stOk B P) (hb : b < bn B) (hq1 : q % 8 + xW B b ≤ bw B) (hq2 : q / 8 + xH B b ≤ bh B)
    (hf : ∀ f, f < 64 → inB (q % 8) (q / 8) (xW B b) (xH B b) f = true → bwl B f = false ∧ otA B P b f = false) : stOk B (updN P b q) := by
  refine ⟨?_, ?_, ?_⟩
  · intro c hc
    by_cases e : c = b
    · subst e; rw [updN_s]; exact ⟨hq1, hq2⟩
    · rw [updN_n e]; exact hs.1 c hc
  · intro a c f h1 h2 h3 h4 h5
    by_cases e : a = b
    · by_cases e2 : c = b
      · rw [e, e2]
      · rw [fb_un e2] at h5
        subst e
        unfold fbA at h4
        rw [updN_s] at h4
        have := (hf f h3 h4).2
        have t : otA B P a f = true := otA_t.mpr ⟨c, h2, e2, h5⟩
        rw [t] at this; cases this
    · rw [fb_un e] at h4
      by_cases e2 : c = b
      · subst e2
        unfold fbA at h5
        rw [updN_s] at h5
        have := (hf f h3 h5).2
        have t : otA B P c f = true := otA_t.mpr ⟨a, h1, e, h4⟩
        rw [t] at this; cases this
      · rw [fb_un e2] at h5
        exact hs.2.1 a c f h1 h2 h3 h4 h5
  · intro a f h1 h2 h3
    by_cases e : a = b
    · subst e
      unfold fbA at h3
      rw [updN_s] at h3
      exact (hf f h2 h3).1
    · rw [fb_un e] at h3
      exact hs.2.2 a f h1 h2 h3
theorem stOk_step {B : Bas} {P : Nat → Nat} {b d q : Nat} {bk : Bool} (h : basOk B) (hs : stOk B P) (hb : b < bn B) (hd : d < 4) (h0 : hnd B P b d q bk = 0) : stOk B (updN P b (nxt d q)) ∧ nxt d q < 64 := by
  obtain ⟨h1, h2, h3, h4, h5, h6, h7, h8⟩ := basOk_wh h hb
  obtain ⟨g, k⟩ := hnd_0 h hb hd h0
  obtain ⟨g1, g2, g3, -, -⟩ := goIn_t h.2.1 h.2.2.2.1 h4 h6 hd g
  exact ⟨stOk_mv hs hb g2 g3 k, g1⟩
