/-! Moves backwards. -/
def opp (d : Nat) : Nat := (d + 2) % 4
theorem opp_d : ∀ d, d < 4 → opp d < 4 ∧ opp d % 2 = d % 2 ∧ opp (opp d) = d ∧ dxI (opp d) = - dxI d ∧ dyI (opp d) = - dyI d := by decide
theorem hnd_iff {B : Bas} {P : Nat → Nat} {b d q : Nat} {bk : Bool} : hnd B P b d q bk = 0 ↔ (¬ ((bK B b = 1 ∨ bK B b = 5) ∧ ¬ (bY B b = 1 ↔ d % 2 = 0))) ∧ goIn (bw B) (bh B) (xW B b) (xH B b) d q = true ∧
    anyF (fun f => inB (nxt d q % 8) (nxt d q / 8) (xW B b) (xH B b) f && bwl B f) = false ∧ anyF (fun f => inB (nxt d q % 8) (nxt d q / 8) (xW B b) (xH B b) f && otA B P b f) = false ∧
    ¬ (bK B b = 4 ∧ anyF (fun f => nextTo (if bk then nxt d q else q) f && otA B P b f) = true) := by
  unfold hnd hindA
  by_cases a : (bK B b = 1 ∨ bK B b = 5) ∧ ¬ (bY B b = 1 ↔ d % 2 = 0)
  · rw [if_pos a]
    exact ⟨fun z => by (cases z), fun z => absurd a z.1⟩
  · rw [if_neg a]
    by_cases g : goIn (bw B) (bh B) (xW B b) (xH B b) d q = false
    · rw [if_pos g]
      exact ⟨fun z => by (cases z), fun z => by have := z.2.1; rw [g] at this; cases this⟩
    · rw [if_neg g]
      by_cases h3 : anyF (fun f => inB (nxt d q % 8) (nxt d q / 8) (xW B b) (xH B b) f && bwl B f) = true
      · rw [if_pos h3]
        exact ⟨fun z => by (cases z), fun z => by have := z.2.2.1; rw [h3] at this; cases this⟩
      · rw [if_neg h3]
        by_cases h4 : anyF (fun f => inB (nxt d q % 8) (nxt d q / 8) (xW B b) (xH B b) f && otA B P b f) = true
        · rw [if_pos h4]
          exact ⟨fun z => by (cases z), fun z => by have := z.2.2.2.1; rw [h4] at this; cases this⟩
        · rw [if_neg h4]
          by_cases h5 : bK B b = 4 ∧ anyF (fun f => nextTo (if bk then nxt d q else q) f && otA B P b f) = true
          · rw [if_pos h5]
            exact ⟨fun z => by (cases z), fun z => absurd h5 z.2.2.2.2⟩
          · rw [if_neg h5]
            exact ⟨fun _ => ⟨a, by simpa using g, by simpa using h3, by simpa using h4, h5⟩, fun _ => rfl⟩
/-- a stand's own fields are free of walls and of others -/
theorem st_free {B : Bas} {P : Nat → Nat} {b q : Nat} (hs : stOk B (updN P b q)) (hb : b < bn B) : anyF (fun f => inB (q % 8) (q / 8) (xW B b) (xH B b) f && bwl B f) = false ∧ anyF (fun f => inB (q % 8) (q / 8) (xW B b) (xH B b) f && otA B P b f) = false := by
  have own : ∀ f, inB (q % 8) (q / 8) (xW B b) (xH B b) f = fbA B (updN P b q) b f := by intro f; unfold fbA; rw [updN_s]
  constructor
  · rw [anyF_f]
    intro f hf
    rw [own]
    cases e : fbA B (updN P b q) b f with
    | false => rfl
    | true => rw [Bool.true_and]; exact hs.2.2 b f hb hf e
  · rw [anyF_f]
    intro f hf
    rw [own]
    cases e : fbA B (updN P b q) b f with
    | false => rfl
    | true =>
      rw [Bool.true_and, ← Bool.not_eq_true, otA_t]
      rintro ⟨c, h1, h2, h3⟩
      rw [← fb_un (q := q) h2] at h3
      exact h2 (hs.2.1 c b f h1 hb hf h3 e)
theorem hnd_rev {B : Bas} {P : Nat → Nat} {b d p : Nat} {bk : Bool} (h : basOk B) (hb : b < bn B) (hd : d < 4) (hs : stOk B (updN P b p)) (h0 : hnd B P b d p bk = 0) :
    nxt (opp d) (nxt d p) = p ∧ hnd B P b (opp d) (nxt d p) (!bk) = 0 := by
  obtain ⟨o1, o2, o3, o4, o5⟩ := opp_d d hd
  obtain ⟨a1, a2, a3, a4, a5, a6, a7, a8⟩ := basOk_wh h hb
  obtain ⟨z1, z2, z3, z4, z5⟩ := hnd_iff.mp h0
  obtain ⟨g1, g2, g3, g4, g5⟩ := goIn_t h.2.1 h.2.2.2.1 a4 a6 hd z2
  have i1 := hs.1 b hb
  rw [updN_s] at i1
  have gi : goIn (bw B) (bh B) (xW B b) (xH B b) (opp d) (nxt d p) = true := by
    unfold goIn
    rw [decide_eq_true_eq, o4, o5]
    omega
  obtain ⟨r1, r2, r3, r4, r5⟩ := goIn_t h.2.1 h.2.2.2.1 a4 a6 o1 gi
  have en : nxt (opp d) (nxt d p) = p := by omega
  refine ⟨en, hnd_iff.mpr ⟨?_, gi, ?_, ?_, ?_⟩⟩
  · rw [o2]; exact z1
  · rw [en]; exact (st_free hs hb).1
  · rw [en]; exact (st_free hs hb).2
  · rw [en]
    intro z
    apply z5
    refine ⟨z.1, ?_⟩
    have := z.2
    cases bk <;> simpa using this
theorem roomA_iff {hn : Nat → Nat} {d : Nat} : ∀ {m q k : Nat}, k ≤ roomA hn d m q ↔ k ≤ m ∧ ∀ j, j < k → hn (nxtk d q j) = 0
  | m, q, k => by
    constructor
    · intro h
      exact ⟨Nat.le_trans h roomA_le, fun j hj => roomA_way (Nat.lt_of_lt_of_le hj h)⟩
    · rintro ⟨h1, h2⟩
      apply Nat.le_of_not_lt
      intro c
      rcases roomA_end (hn := hn) (d := d) (m := m) (q := q) with e | e
      · omega
      · exact e (h2 _ c)
/-- the way back -/
theorem way_back {B : Bas} {P : Nat → Nat} {b d k : Nat} {bk : Bool} (h : basOk B) (hs : stOk B P) (hb : b < bn B) (hd : d < 4) (hk : k ≤ room B P b d bk) : ∀ j, j ≤ k → nxtk (opp d) (nxtk d (P b) k) j = nxtk d (P b) (k - j)
  | 0, _ => rfl
  | j + 1, hj => by
    have ih := way_back h hs hb hd hk j (by omega)
    have w := room_way (show k - (j + 1) < room B P b d bk by omega)
    have s := (room_st (bk := bk) h hs hb hd (k := k - (j + 1)) (by omega)).1
    have r := (hnd_rev h hb hd s w).1
    rw [nxtk_s, ih, show k - j = (k - (j + 1)) + 1 by omega, nxtk_s, r]
theorem mv_rev {B : Bas} {P : Nat → Nat} {most c : Nat} {bk : Bool} (h : basOk B) (hs : stOk B P) (hc : c ∈ mvs B P most bk) : ∃ c', c' ∈ mvs B (tgt P c) most (!bk) ∧ tgt (tgt P c) c' = P := by
  obtain ⟨b, d, k, hb, hd, h1, h2, h3, e⟩ := mvs_mem.mp hc
  have r7 := room_le (B := B) (P := P) (b := b) (d := d) (bk := bk)
  obtain ⟨o1, o2, o3, o4, o5⟩ := opp_d d hd
  have wb := way_back h hs hb hd h3
  rw [e, tgt_code hd (by omega)]
  refine ⟨32 * b + 8 * opp d + k, mvs_mem.mpr ⟨b, opp d, k, hb, o1, h1, h2, ?_, rfl⟩, ?_⟩
  · unfold room
    rw [roomA_iff]
    refine ⟨by omega, fun j hj => ?_⟩
    rw [updN_s, wb j (by omega), hnd_upd]
    have w := room_way (show k - (j + 1) < room B P b d bk by omega)
    have s := (room_st (bk := bk) h hs hb hd (k := k - (j + 1)) (by omega)).1
    have r := (hnd_rev h hb hd s w).2
    rw [← nxtk_s, show k - (j + 1) + 1 = k - j by omega] at r
    exact r
  · rw [tgt_code o1 (by omega), updN_s, wb k (Nat.le_refl _), updN_two, Nat.sub_self]
    exact updN_self
/-- u has a move to a -/
def edg (B : Bas) (most : Nat) (u a : Nat → Nat) : Prop := ∃ c, c ∈ mvs B u most false ∧ tgt u c = a
theorem edg_back {B : Bas} {most : Nat} {u a : Nat → Nat} (h : basOk B) (hu : stOk B u) (ha : stOk B a) : edg B most u a ↔ ∃ c, c ∈ mvs B a most true ∧ tgt a c = u := by
  constructor
  · rintro ⟨c, h1, rfl⟩
    have r := mv_rev h hu h1
    rw [Bool.not_false] at r
    exact r
  · rintro ⟨c, h1, rfl⟩
    have r := mv_rev h ha h1
    rw [Bool.not_true] at r
    exact r
/-! Distances: what a row of distances must be. -/
def distOk (N : Nat) (edge : Nat → Nat → Prop) (fr : Nat → Bool) (D : Nat → Option Nat) : Prop :=
  (∀ u, u < N → (D u = some 0 ↔ fr u = true)) ∧ (∀ u k, u < N → D u = some (k + 1) → ∃ a, a < N ∧ edge u a ∧ D a = some k) ∧ (∀ u a k, u < N → a < N → edge u a → D a = some k → ∃ k', k' ≤ k + 1 ∧ D u = some k')
theorem dist_le {N : Nat} {edge : Nat → Nat → Prop} {fr : Nat → Bool} {D E : Nat → Option Nat} (hd : distOk N edge fr D) (he : distOk N edge fr E) : ∀ k u, u < N → D u = some k → ∃ k', k' ≤ k ∧ E u = some k'
  | 0, u, hu, e => ⟨0, Nat.le_refl _, (he.1 u hu).mpr ((hd.1 u hu).mp e)⟩
  | k + 1, u, hu, e => by
    obtain ⟨a, ha, h1, h2⟩ := hd.2.1 u k hu e
    obtain ⟨k', h3, h4⟩ := dist_le hd he k a ha h2
    obtain ⟨k'', h5, h6⟩ := he.2.2 u a k' hu ha h1 h4
    exact ⟨k'', by omega, h6⟩
theorem dist_uniq {N : Nat} {edge : Nat → Nat → Prop} {fr : Nat → Bool} {D E : Nat → Option Nat} (hd : distOk N edge fr D) (he : distOk N edge fr E) {u : Nat} (hu : u < N) : D u = E u := by
  cases e : D u with
  | none =>
    cases e2 : E u with
    | none => rfl
    | some k =>
      obtain ⟨k', -, h⟩ := dist_le he hd k u hu e2
      rw [e] at h; cases h
  | some k =>
    obtain ⟨k', h1, h2⟩ := dist_le hd he k u hu e
    obtain ⟨k'', h3, h4⟩ := dist_le he hd k' u hu h2
    rw [e] at h4
    cases h4
    rw [h2, show k' = k by omega]
