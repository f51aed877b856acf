/-! Two basins that are the same; basins turned and mirrored. -/
abbrev BP : Type := Bas × (Nat → Nat)
def okX (X : BP) : Prop := basOk X.1 ∧ stC X.1 X.2 ∧ ∀ f, f < 64 → (bw X.1 ≤ f % 8 ∨ bh X.1 ≤ f / 8) → bwl X.1 f = false
def tuX (ov : Bool) (X : BP) : BP := (tuB ov X.1, tuP ov X.1 X.2)
theorem ok_tu {ov : Bool} {X : BP} (h : okX X) : okX (tuX ov X) := ⟨tu_bas h.1 h.2.1, tu_st h.1 h.2.1, tu_out h.1 h.2.2⟩
def likeA (X : BP) (b : Nat) (Y : BP) (c : Nat) : Prop := X.2 b = Y.2 c ∧ bK X.1 b = bK Y.1 c ∧ bS X.1 b = bS Y.1 c ∧ bY X.1 b = bY Y.1 c ∧ (bK X.1 b = 5 → bG X.1 b = bG Y.1 c)
def smX (X Y : BP) : Prop := bw X.1 = bw Y.1 ∧ bh X.1 = bh Y.1 ∧ bn X.1 = bn Y.1 ∧ (∀ f, f < 64 → bwl X.1 f = bwl Y.1 f) ∧ ∀ b, b < bn X.1 → ∃ c, c < bn Y.1 ∧ likeA X b Y c
theorem sm_refl (X : BP) : smX X X := ⟨rfl, rfl, rfl, fun _ _ => rfl, fun b hb => ⟨b, hb, rfl, rfl, rfl, rfl, fun _ => rfl⟩⟩
theorem sm_trans {X Y Z : BP} (h1 : smX X Y) (h2 : smX Y Z) : smX X Z := by
  obtain ⟨a1, a2, a3, a4, a5⟩ := h1
  obtain ⟨b1, b2, b3, b4, b5⟩ := h2
  refine ⟨a1.trans b1, a2.trans b2, a3.trans b3, fun f hf => (a4 f hf).trans (b4 f hf), fun b hb => ?_⟩
  obtain ⟨c, hc, l1, l2, l3, l4, l5⟩ := a5 b hb
  obtain ⟨d, hd, m1, m2, m3, m4, m5⟩ := b5 c hc
  exact ⟨d, hd, l1.trans m1, l2.trans m2, l3.trans m3, l4.trans m4, fun e => (l5 e).trans (m5 (by rw [← l2]; exact e))⟩
theorem pgh : ∀ (n : Nat) (g : Nat → Nat), (∀ b, b < n → g b < n) → (∀ b c, b < n → c < n → g b = g c → b = c) → ∀ c, c < n → ∃ b, b < n ∧ g b = c := by
  intro n
  induction n with
  | zero => intro g _ _ c hc; omega
  | succ n ih =>
    intro g h1 h2 c hc
    by_cases e : g n = c
    · exact ⟨n, by omega, e⟩
    · have gn := h1 n (by omega)
      have i := ih (fun b => if g b = n then g n else g b) (fun b hb => by
        show (if g b = n then g n else g b) < n
        have q1 := h1 b (by omega)
        by_cases z : g b = n
        · rw [if_pos z]
          by_cases y : g n = n
          · have := h2 b n (by omega) (by omega) (by rw [z, y]); omega
          · omega
        · rw [if_neg z]; omega) (fun b d hb hd z => by
        have z' : (if g b = n then g n else g b) = (if g d = n then g n else g d) := z
        by_cases y1 : g b = n
        · by_cases y2 : g d = n
          · exact h2 b d (by omega) (by omega) (by rw [y1, y2])
          · rw [if_pos y1, if_neg y2] at z'
            have := h2 n d (by omega) (by omega) z'; omega
        · by_cases y2 : g d = n
          · rw [if_neg y1, if_pos y2] at z'
            have := h2 b n (by omega) (by omega) z'; omega
          · rw [if_neg y1, if_neg y2] at z'
            exact h2 b d (by omega) (by omega) z')
      by_cases cn : c = n
      · have gl : g n < n := by omega
        obtain ⟨b, hb, q⟩ := i (g n) gl
        have q' : (if g b = n then g n else g b) = g n := q
        by_cases z : g b = n
        · exact ⟨b, by omega, by rw [z, cn]⟩
        · rw [if_neg z] at q'
          have := h2 b n (by omega) (by omega) q'; omega
      · obtain ⟨b, hb, q⟩ := i c (by omega)
        have q' : (if g b = n then g n else g b) = c := q
        by_cases z : g b = n
        · rw [if_pos z] at q'; exact absurd q' e
        · rw [if_neg z] at q'; exact ⟨b, by omega, q'⟩
theorem pl_inj {X : BP} (h : okX X) {b c : Nat} (hb : b < bn X.1) (hc : c < bn X.1) (e : X.2 b = X.2 c) : b = c := by
  have p := ins_64 h.1 h.2.1.1.1 hb
  refine h.2.1.1.2.1 b c (X.2 b) hb hc p (fb_own h.1 hb) ?_
  rw [e]
  exact fb_own h.1 hc
theorem sm_symm {X Y : BP} (hX : okX X) (h : smX X Y) : smX Y X := by
  obtain ⟨a1, a2, a3, a4, a5⟩ := h
  refine ⟨a1.symm, a2.symm, a3.symm, fun f hf => (a4 f hf).symm, fun c hc => ?_⟩
  have ex : ∃ g : Nat → Nat, ∀ b, b < bn X.1 → g b < bn Y.1 ∧ likeA X b Y (g b) :=
    ⟨fun b => if z : b < bn X.1 then Classical.choose (a5 b z) else 0, fun b hb => by
      simp only [dif_pos hb]
      exact Classical.choose_spec (a5 b hb)⟩
  obtain ⟨g, hg⟩ := ex
  obtain ⟨b, hb, e⟩ := pgh (bn X.1) g (fun b hb => by rw [a3]; exact (hg b hb).1) (fun b d hb hd e => by
    have l1 := (hg b hb).2.1
    have l2 := (hg d hd).2.1
    rw [e] at l1
    exact pl_inj hX hb hd (l1.trans l2.symm)) c (by rw [a3]; exact hc)
  obtain ⟨-, l1, l2, l3, l4, l5⟩ := hg b hb
  rw [e] at l1 l2 l3 l4 l5
  exact ⟨b, hb, l1.symm, l2.symm, l3.symm, l4.symm, fun z => (l5 (by rw [l2]; exact z)).symm⟩
theorem sm_tu {ov : Bool} {X Y : BP} (hX : okX X) (h : smX X Y) : smX (tuX ov X) (tuX ov Y) := by
  obtain ⟨a1, a2, a3, a4, a5⟩ := h
  refine ⟨?_, ?_, a3, fun f hf => ?_, fun b hb => ?_⟩
  · show nwT ov (bw X.1) (bh X.1) = nwT ov (bw Y.1) (bh Y.1); rw [a1, a2]
  · show nwT ov (bh X.1) (bw X.1) = nwT ov (bh Y.1) (bw Y.1); rw [a1, a2]
  · show (decide (f % 8 < nwT ov (bw X.1) (bh X.1)) && bwl X.1 (pre ov (bw X.1) (bh X.1) f)) = (decide (f % 8 < nwT ov (bw Y.1) (bh Y.1)) && bwl Y.1 (pre ov (bw Y.1) (bh Y.1) f))
    rw [a4 _ (pre_64 hf hX.1.2.1 hX.1.2.2.2.1 (by have := hX.1.1; omega) (by have := hX.1.2.2.1; omega)), a1, a2]
  · have hb' : b < bn X.1 := hb
    obtain ⟨c, hc, l1, l2, l3, l4, l5⟩ := a5 b hb'
    have ew : xW X.1 b = xW Y.1 c := by unfold xW; rw [l2, l3, l4]
    have eh : xH X.1 b = xH Y.1 c := by unfold xH; rw [l2, l3, l4]
    refine ⟨c, hc, ?_, l2, l3, ?_, fun e => ?_⟩
    · show tuP ov X.1 X.2 b = tuP ov Y.1 Y.2 c
      rw [show tuP ov X.1 X.2 b = tpl ov (bw X.1) (bh X.1) (xW X.1 b) (xH X.1 b) (X.2 b) from if_pos hb', show tuP ov Y.1 Y.2 c = tpl ov (bw Y.1) (bh Y.1) (xW Y.1 c) (xH Y.1 c) (Y.2 c) from if_pos hc, a1, a2, ew, eh, l1]
    · show (if ov = true then bY X.1 b else if bK X.1 b = 1 ∨ bK X.1 b = 5 then 1 - bY X.1 b else bY X.1 b) = (if ov = true then bY Y.1 c else if bK Y.1 c = 1 ∨ bK Y.1 c = 5 then 1 - bY Y.1 c else bY Y.1 c)
      rw [l2, l4]
    · show tpl ov (bw X.1) (bh X.1) (xW X.1 b) (xH X.1 b) (bG X.1 b) = tpl ov (bw Y.1) (bh Y.1) (xW Y.1 c) (xH Y.1 c) (bG Y.1 c)
      rw [a1, a2, ew, eh, l5 e]
/-- coordinates of the images -/
def crd (w h W H p p' : Nat) (ov : Bool) : Prop := if ov = true then p' % 8 + p % 8 + W = w ∧ p' / 8 = p / 8 else p' % 8 + p / 8 + H = h ∧ p' / 8 = p % 8
theorem crd_t {w h W H p p' : Nat} : crd w h W H p p' true = (p' % 8 + p % 8 + W = w ∧ p' / 8 = p / 8) := if_pos rfl
theorem crd_f {w h W H p p' : Nat} : crd w h W H p p' false = (p' % 8 + p / 8 + H = h ∧ p' / 8 = p % 8) := if_neg (by decide)
theorem tu_crd {ov : Bool} {X : BP} {b : Nat} (h : okX X) (hb : b < bn X.1) : crd (bw X.1) (bh X.1) (xW X.1 b) (xH X.1 b) (X.2 b) ((tuX ov X).2 b) ov ∧ (bK X.1 b = 5 → crd (bw X.1) (bh X.1) (xW X.1 b) (xH X.1 b) (bG X.1 b) (bG (tuX ov X).1 b) ov) := by
  have w8 := h.1.2.1
  have h8 := h.1.2.2.2.1
  obtain ⟨a1, a2, a3, a4, a5, a6, a7, a8⟩ := basOk_wh h.1 hb
  have g : ∀ p, p % 8 + xW X.1 b ≤ bw X.1 → p / 8 + xH X.1 b ≤ bh X.1 → crd (bw X.1) (bh X.1) (xW X.1 b) (xH X.1 b) p (tpl ov (bw X.1) (bh X.1) (xW X.1 b) (xH X.1 b) p) ov := by
    intro p i1 i2
    obtain ⟨t1, t2, -⟩ := tpl_xy (ov := ov) i1 i2 w8 h8 a4 a6
    cases ov with
    | true => rw [crd_t, t1, t2, if_pos rfl, if_pos rfl]; omega
    | false => rw [crd_f, t1, t2, if_neg (by decide), if_neg (by decide)]; omega
  refine ⟨?_, fun e => ?_⟩
  · obtain ⟨i1, i2⟩ := h.2.1.1.1 b hb
    rw [show (tuX ov X).2 b = tpl ov (bw X.1) (bh X.1) (xW X.1 b) (xH X.1 b) (X.2 b) from if_pos hb]
    exact g _ i1 i2
  · obtain ⟨-, -, g3, g4⟩ := h.2.1.2.2 b hb e
    exact g _ g3 g4
theorem wl_m {X : BP} {x y : Nat} (hx : x < bw X.1) (w8 : bw X.1 ≤ 8) : bwl (tuX true X).1 (x + 8 * y) = bwl X.1 ((bw X.1 - 1 - x) + 8 * y) := by
  show (decide ((x + 8 * y) % 8 < nwT true (bw X.1) (bh X.1)) && bwl X.1 (pre true (bw X.1) (bh X.1) (x + 8 * y))) = _
  unfold nwT pre
  rw [if_pos rfl, if_pos rfl, decide_eq_true (by omega), Bool.true_and]
  congr 1
  omega
theorem wl_q {X : BP} {x y : Nat} (hx : x < bh X.1) (h8 : bh X.1 ≤ 8) (hy : y < 8) : bwl (tuX false X).1 (x + 8 * y) = bwl X.1 (y + 8 * (bh X.1 - 1 - x)) := by
  show (decide ((x + 8 * y) % 8 < nwT false (bw X.1) (bh X.1)) && bwl X.1 (pre false (bw X.1) (bh X.1) (x + 8 * y))) = _
  unfold nwT pre
  rw [if_neg (by decide), if_neg (by decide), decide_eq_true (by omega), Bool.true_and]
  congr 1
  omega
theorem sm_idx {X Y : BP} (hX : okX X) (hY : okX Y) (h1 : bw X.1 = bw Y.1) (h2 : bh X.1 = bh Y.1) (h3 : bn X.1 = bn Y.1) (h4 : ∀ x y, x < bw Y.1 → y < bh Y.1 → bwl X.1 (x + 8 * y) = bwl Y.1 (x + 8 * y)) (h5 : ∀ b, b < bn Y.1 → likeA X b Y b) : smX X Y := by
  refine ⟨h1, h2, h3, fun f hf => ?_, fun b hb => ⟨b, by rw [← h3]; exact hb, h5 b (by rw [← h3]; exact hb)⟩⟩
  by_cases q : bw Y.1 ≤ f % 8 ∨ bh Y.1 ≤ f / 8
  · rw [hX.2.2 f hf (by rw [h1, h2]; exact q), hY.2.2 f hf q]
  · have := h4 (f % 8) (f / 8) (by omega) (by omega)
    rw [Nat.mod_add_div] at this
    exact this
/-- Y is X turned by a quarter; mirrored -/
def qR (X Y : BP) : Prop := bw Y.1 = bh X.1 ∧ bh Y.1 = bw X.1 ∧ bn Y.1 = bn X.1 ∧ (∀ x y, x < bh X.1 → y < 8 → bwl Y.1 (x + 8 * y) = bwl X.1 (y + 8 * (bh X.1 - 1 - x))) ∧ ∀ b, b < bn X.1 → xW Y.1 b = xH X.1 b ∧ xH Y.1 b = xW X.1 b ∧ bK Y.1 b = bK X.1 b ∧ bS Y.1 b = bS X.1 b ∧ bY Y.1 b = (if bK X.1 b = 1 ∨ bK X.1 b = 5 then 1 - bY X.1 b else bY X.1 b) ∧ (Y.2 b % 8 + X.2 b / 8 + xH X.1 b = bh X.1 ∧ Y.2 b / 8 = X.2 b % 8) ∧ (bK X.1 b = 5 → bG Y.1 b % 8 + bG X.1 b / 8 + xH X.1 b = bh X.1 ∧ bG Y.1 b / 8 = bG X.1 b % 8)
def mR (X Y : BP) : Prop := bw Y.1 = bw X.1 ∧ bh Y.1 = bh X.1 ∧ bn Y.1 = bn X.1 ∧ (∀ x y, x < bw X.1 → bwl Y.1 (x + 8 * y) = bwl X.1 ((bw X.1 - 1 - x) + 8 * y)) ∧ ∀ b, b < bn X.1 → xW Y.1 b = xW X.1 b ∧ xH Y.1 b = xH X.1 b ∧ bK Y.1 b = bK X.1 b ∧ bS Y.1 b = bS X.1 b ∧ bY Y.1 b = bY X.1 b ∧ (Y.2 b % 8 + X.2 b % 8 + xW X.1 b = bw X.1 ∧ Y.2 b / 8 = X.2 b / 8) ∧ (bK X.1 b = 5 → bG Y.1 b % 8 + bG X.1 b % 8 + xW X.1 b = bw X.1 ∧ bG Y.1 b / 8 = bG X.1 b / 8)
theorem tu_qR {X : BP} (h : okX X) : qR X (tuX false X) := by
  refine ⟨rfl, rfl, rfl, fun x y hx hy => wl_q hx h.1.2.2.2.1 hy, fun b hb => ?_⟩
  obtain ⟨p1, g1⟩ := tu_crd (ov := false) h hb
  rw [crd_f] at p1
  obtain ⟨x1, x2⟩ := tu_x (ov := false) h.1 hb
  exact ⟨x1, x2, rfl, rfl, rfl, p1, fun e => by have := g1 e; rw [crd_f] at this; exact this⟩
theorem tu_mR {X : BP} (h : okX X) : mR X (tuX true X) := by
  refine ⟨rfl, rfl, rfl, fun x y hx => wl_m hx h.1.2.1, fun b hb => ?_⟩
  obtain ⟨p1, g1⟩ := tu_crd (ov := true) h hb
  rw [crd_t] at p1
  obtain ⟨x1, x2⟩ := tu_x (ov := true) h.1 hb
  exact ⟨x1, x2, rfl, rfl, rfl, p1, fun e => by have := g1 e; rw [crd_t] at this; exact this⟩
theorem mm_idR {X Y Z : BP} (h : okX X) (hZ : okX Z) (r1 : mR X Y) (r2 : mR Y Z) : smX Z X := by
  have w8 := h.1.2.1
  have h8 := h.1.2.2.2.1
  obtain ⟨a1, a2, a3, a4, a5⟩ := r1
  obtain ⟨b1, b2, b3, b4, b5⟩ := r2
  refine sm_idx hZ h (by rw [b1, a1]) (by rw [b2, a2]) (by rw [b3, a3]) (fun x y hx hy => ?_) (fun b hb => ?_)
  · rw [b4 x y (by rw [a1]; exact hx), a1, a4 _ y (by omega)]
    congr 1
    omega
  · obtain ⟨c1, c2, c3, c4, c5, c6, c7⟩ := a5 b hb
    obtain ⟨d1, d2, d3, d4, d5, d6, d7⟩ := b5 b (by rw [a3]; exact hb)
    refine ⟨by omega, by rw [d3, c3], by rw [d4, c4], by rw [d5, c5], fun e => ?_⟩
    have e' : bK X.1 b = 5 := by rw [d3, c3] at e; exact e
    have g1 := c7 e'
    have g2 := d7 (by rw [c3]; exact e')
    omega
theorem mm_id {X : BP} (h : okX X) : smX (tuX true (tuX true X)) X := mm_idR h (ok_tu (ok_tu h)) (tu_mR h) (tu_mR (ok_tu h))
theorem yq (k y : Nat) (hy : y < 2) : (if k = 1 ∨ k = 5 then 1 - (if k = 1 ∨ k = 5 then 1 - y else y) else (if k = 1 ∨ k = 5 then 1 - y else y)) = y := by
  by_cases c : k = 1 ∨ k = 5
  · simp only [if_pos c]; omega
  · simp only [if_neg c]
/-- two quarters -/
def hR (X Z : BP) : Prop := bw Z.1 = bw X.1 ∧ bh Z.1 = bh X.1 ∧ bn Z.1 = bn X.1 ∧ (∀ x y, x < bw X.1 → y < bh X.1 → bwl Z.1 (x + 8 * y) = bwl X.1 ((bw X.1 - 1 - x) + 8 * (bh X.1 - 1 - y))) ∧ ∀ b, b < bn X.1 → xW Z.1 b = xW X.1 b ∧ xH Z.1 b = xH X.1 b ∧ bK Z.1 b = bK X.1 b ∧ bS Z.1 b = bS X.1 b ∧ bY Z.1 b = bY X.1 b ∧ (Z.2 b % 8 + X.2 b % 8 + xW X.1 b = bw X.1 ∧ Z.2 b / 8 + X.2 b / 8 + xH X.1 b = bh X.1) ∧ (bK X.1 b = 5 → bG Z.1 b % 8 + bG X.1 b % 8 + xW X.1 b = bw X.1 ∧ bG Z.1 b / 8 + bG X.1 b / 8 + xH X.1 b = bh X.1)
theorem qq_hR {X Y Z : BP} (h : okX X) (r1 : qR X Y) (r2 : qR Y Z) : hR X Z := by
  have w8 := h.1.2.1
  have h8 := h.1.2.2.2.1
  obtain ⟨a1, a2, a3, a4, a5⟩ := r1
  obtain ⟨b1, b2, b3, b4, b5⟩ := r2
  refine ⟨by rw [b1, a2], by rw [b2, a1], by rw [b3, a3], fun x y hx hy => ?_, fun b hb => ?_⟩
  · rw [b4 x y (by rw [a2]; exact hx) (by omega), a2, a4 y _ hy (by omega)]
  · obtain ⟨c1, c2, c3, c4, c5, c6, c7⟩ := a5 b hb
    obtain ⟨d1, d2, d3, d4, d5, d6, d7⟩ := b5 b (by rw [a3]; exact hb)
    have y2 := (h.1.2.2.2.2.2.1 b hb).2.1
    refine ⟨by rw [d1, c2], by rw [d2, c1], by rw [d3, c3], by rw [d4, c4], ?_, by omega, fun e => ?_⟩
    · rw [d5, c3, c5]; exact yq _ _ y2
    · have g1 := c7 e
      have g2 := d7 (by rw [c3]; exact e)
      omega
theorem hh_id {X Y Z : BP} (h : okX X) (hZ : okX Z) (r1 : hR X Y) (r2 : hR Y Z) : smX Z X := by
  have w8 := h.1.2.1
  have h8 := h.1.2.2.2.1
  obtain ⟨a1, a2, a3, a4, a5⟩ := r1
  obtain ⟨b1, b2, b3, b4, b5⟩ := r2
  refine sm_idx hZ h (by rw [b1, a1]) (by rw [b2, a2]) (by rw [b3, a3]) (fun x y hx hy => ?_) (fun b hb => ?_)
  · rw [b4 x y (by rw [a1]; exact hx) (by rw [a2]; exact hy), a1, a2, a4 _ _ (by omega) (by omega)]
    congr 1
    omega
  · obtain ⟨c1, c2, c3, c4, c5, c6, c7⟩ := a5 b hb
    obtain ⟨d1, d2, d3, d4, d5, d6, d7⟩ := b5 b (by rw [a3]; exact hb)
    refine ⟨by omega, by rw [d3, c3], by rw [d4, c4], by rw [d5, c5], fun e => ?_⟩
    have e' : bK X.1 b = 5 := by rw [d3, c3] at e; exact e
    have g1 := c7 e'
    have g2 := d7 (by rw [c3]; exact e')
    omega
theorem q4_id {X : BP} (h : okX X) : smX (tuX false (tuX false (tuX false (tuX false X)))) X := by
  have h1 := ok_tu (ov := false) h
  have h2 := ok_tu (ov := false) h1
  have h3 := ok_tu (ov := false) h2
  exact hh_id h (ok_tu h3) (qq_hR h (tu_qR h) (tu_qR h1)) (qq_hR h2 (tu_qR h2) (tu_qR h3))
theorem qmq_mR {X Y Z V M : BP} (h : okX X) (hV : okX V) (hM : okX M) (r1 : qR X Y) (r2 : mR Y Z) (r3 : qR Z V) (r4 : mR X M) : smX V M := by
  have w8 := h.1.2.1
  have h8 := h.1.2.2.2.1
  obtain ⟨a1, a2, a3, a4, a5⟩ := r1
  obtain ⟨b1, b2, b3, b4, b5⟩ := r2
  obtain ⟨c1, c2, c3, c4, c5⟩ := r3
  obtain ⟨d1, d2, d3, d4, d5⟩ := r4
  refine sm_idx hV hM (by rw [c1, b2, a2, d1]) (by rw [c2, b1, a1, d2]) (by rw [c3, b3, a3, d3]) (fun x y hx hy => ?_) (fun b hb => ?_)
  · rw [d1] at hx
    rw [d2] at hy
    rw [c4 x y (by rw [b2, a2]; exact hx) (by omega), b2, a2, b4 y _ (by rw [a1]; exact hy), a1, a4 _ _ (by omega) (by omega), d4 x y hx]
    congr 1
    omega
  · rw [d3] at hb
    obtain ⟨e1, e2, e3, e4, e5, e6, e7⟩ := a5 b hb
    obtain ⟨f1, f2, f3, f4, f5, f6, f7⟩ := b5 b (by rw [a3]; exact hb)
    obtain ⟨g1, g2, g3, g4, g5, g6, g7⟩ := c5 b (by rw [b3, a3]; exact hb)
    obtain ⟨k1, k2, k3, k4, k5, k6, k7⟩ := d5 b hb
    have y2 := (h.1.2.2.2.2.2.1 b hb).2.1
    refine ⟨by omega, by rw [g3, f3, e3, k3], by rw [g4, f4, e4, k4], ?_, fun e => ?_⟩
    · rw [g5, f3, e3, f5, e5, k5]; exact yq _ _ y2
    · have e' : bK X.1 b = 5 := by rw [g3, f3, e3] at e; exact e
      have q1 := e7 e'
      have q2 := f7 (by rw [e3]; exact e')
      have q3 := g7 (by rw [f3, e3]; exact e')
      have q4 := k7 e'
      omega
theorem qmq_m {X : BP} (h : okX X) : smX (tuX false (tuX true (tuX false X))) (tuX true X) :=
  qmq_mR h (ok_tu (ok_tu (ok_tu h))) (ok_tu h) (tu_qR h) (tu_mR (ok_tu h)) (tu_qR (ok_tu (ok_tu h))) (tu_mR h)
