/-! A basin mirrored (ov) or turned by a quarter. -/
def tpl (ov : Bool) (w h W H p : Nat) : Nat := if ov = true then p / 8 * 8 + (w - p % 8 - W) else 8 * (p % 8) + (h - p / 8 - H)
def pre (ov : Bool) (w h f : Nat) : Nat := if ov = true then f / 8 * 8 + (w - 1 - f % 8) else f / 8 + 8 * (h - 1 - f % 8)
def nwT (ov : Bool) (w h : Nat) : Nat := if ov = true then w else h
def tuB (ov : Bool) (B : Bas) : Bas := (nwT ov (bw B) (bh B), nwT ov (bh B) (bw B), bn B, bK B, bS B, fun b => if ov = true then bY B b else if bK B b = 1 ∨ bK B b = 5 then 1 - bY B b else bY B b, fun b => tpl ov (bw B) (bh B) (xW B b) (xH B b) (bG B b), fun f => decide (f % 8 < nwT ov (bw B) (bh B)) && bwl B (pre ov (bw B) (bh B) f))
def tuP (ov : Bool) (B : Bas) (P : Nat → Nat) : Nat → Nat := fun b => if b < bn B then tpl ov (bw B) (bh B) (xW B b) (xH B b) (P b) else 0
theorem tu_x {ov : Bool} {B : Bas} {b : Nat} (h : basOk B) (hb : b < bn B) : xW (tuB ov B) b = nwT ov (xW B b) (xH B b) ∧ xH (tuB ov B) b = nwT ov (xH B b) (xW B b) := by
  obtain ⟨l1, l2, l3⟩ := h.2.2.2.2.2.1 b hb
  cases ov with
  | true => exact ⟨rfl, rfl⟩
  | false =>
    show bW (bK B b) (bS B b) (if bK B b = 1 ∨ bK B b = 5 then 1 - bY B b else bY B b) = bH (bK B b) (bS B b) (bY B b) ∧ bH (bK B b) (bS B b) (if bK B b = 1 ∨ bK B b = 5 then 1 - bY B b else bY B b) = bW (bK B b) (bS B b) (bY B b)
    have y2 : bY B b = 0 ∨ bY B b = 1 := by omega
    unfold bW bH
    by_cases k3 : bK B b = 3
    · rw [if_pos k3, if_pos k3, if_pos k3, if_pos k3]; exact ⟨rfl, rfl⟩
    · rw [if_neg k3, if_neg k3, if_neg k3, if_neg k3]
      by_cases k : bK B b = 1 ∨ bK B b = 5
      · simp only [if_pos k]
        rcases y2 with e | e <;> rw [e] <;> exact ⟨rfl, rfl⟩
      · simp only [if_neg k]; exact ⟨trivial, trivial⟩
theorem tpl_xy {ov : Bool} {w h W H p : Nat} (hw : p % 8 + W ≤ w) (hh : p / 8 + H ≤ h) (w8 : w ≤ 8) (h8 : h ≤ 8) (W1 : 1 ≤ W) (H1 : 1 ≤ H) : tpl ov w h W H p % 8 = (if ov = true then w - p % 8 - W else h - p / 8 - H) ∧ tpl ov w h W H p / 8 = (if ov = true then p / 8 else p % 8) ∧ tpl ov w h W H p < 64 := by
  unfold tpl
  cases ov with
  | true => simp only [if_true]; omega
  | false => simp only [Bool.false_eq_true, if_false]; omega
theorem pre_64 {ov : Bool} {w h f : Nat} (hf : f < 64) (w8 : w ≤ 8) (h8 : h ≤ 8) (w1 : 1 ≤ w) (h1 : 1 ≤ h) : pre ov w h f < 64 := by
  unfold pre
  cases ov with
  | true => simp only [if_true]; omega
  | false => simp only [Bool.false_eq_true, if_false]; omega
theorem tu_fb {ov : Bool} {B : Bas} {P : Nat → Nat} {b f : Nat} (h : basOk B) (hi : insA B P) (hb : b < bn B) (hf : f < 64) : fbA (tuB ov B) (tuP ov B P) b f = (decide (f % 8 < nwT ov (bw B) (bh B)) && fbA B P b (pre ov (bw B) (bh B) f)) := by
  have w8 := h.2.1
  have h8 := h.2.2.2.1
  have w3 := h.1
  have h3 := h.2.2.1
  obtain ⟨i1, i2⟩ := hi b hb
  obtain ⟨a1, a2, a3, a4, a5, a6, a7, a8⟩ := basOk_wh h hb
  obtain ⟨t1, t2, t3⟩ := tpl_xy (ov := ov) i1 i2 w8 h8 a4 a6
  unfold fbA
  rw [(tu_x h hb).1, (tu_x h hb).2, show tuP ov B P b = tpl ov (bw B) (bh B) (xW B b) (xH B b) (P b) from if_pos hb, t1, t2]
  unfold inB pre nwT
  rw [Bool.eq_iff_iff]
  cases ov with
  | true => simp only [if_true, Bool.and_eq_true, decide_eq_true_eq]; omega
  | false => simp only [Bool.false_eq_true, if_false, Bool.and_eq_true, decide_eq_true_eq]; omega
theorem tu_bas {ov : Bool} {B : Bas} {P : Nat → Nat} (h : basOk B) (hP : stC B P) : basOk (tuB ov B) := by
  obtain ⟨h1, h2, h3, h4, h5, h6, h7⟩ := h
  refine ⟨?_, ?_, ?_, ?_, h5, fun b hb => ?_, fun b hb e => ?_⟩
  · show 3 ≤ nwT ov (bw B) (bh B); unfold nwT; split <;> omega
  · show nwT ov (bw B) (bh B) ≤ 8; unfold nwT; split <;> omega
  · show 3 ≤ nwT ov (bh B) (bw B); unfold nwT; split <;> omega
  · show nwT ov (bh B) (bw B) ≤ 8; unfold nwT; split <;> omega
  · obtain ⟨l1, l2, l3⟩ := h6 b hb
    refine ⟨l1, ?_, ?_⟩
    · show (if ov = true then bY B b else if bK B b = 1 ∨ bK B b = 5 then 1 - bY B b else bY B b) < 2
      split
      · exact l2
      · split <;> omega
    · show (if ov = true then bY B b else if bK B b = 1 ∨ bK B b = 5 then 1 - bY B b else bY B b) = 1 → bK B b = 1 ∨ bK B b = 5
      intro q
      split at q
      · exact l3 q
      · split at q
        · assumption
        · exact l3 q
  · obtain ⟨g1, g2, g3, g4⟩ := hP.2.2 b hb e
    obtain ⟨a1, a2, a3, a4, a5, a6, a7, a8⟩ := basOk_wh ⟨h1, h2, h3, h4, h5, h6, h7⟩ hb
    exact (tpl_xy (ov := ov) g3 g4 h2 h4 a4 a6).2.2
theorem tu_st {ov : Bool} {B : Bas} {P : Nat → Nat} (h : basOk B) (hP : stC B P) : stC (tuB ov B) (tuP ov B P) := by
  have w8 := h.2.1
  have h8 := h.2.2.2.1
  have w3 := h.1
  have h3 := h.2.2.1
  have p64 : ∀ f, f < 64 → pre ov (bw B) (bh B) f < 64 := fun f hf => pre_64 hf w8 h8 (by omega) (by omega)
  refine ⟨⟨fun b hb => ?_, fun b c f hb hc hf e1 e2 => ?_, fun b f hb hf e => ?_⟩, fun b hb => if_neg (show ¬ b < bn B from Nat.not_lt.mpr hb), fun b hb e => ?_⟩
  · have hb' : b < bn B := hb
    obtain ⟨i1, i2⟩ := hP.1.1 b hb'
    obtain ⟨a1, a2, a3, a4, a5, a6, a7, a8⟩ := basOk_wh h hb'
    obtain ⟨t1, t2, t3⟩ := tpl_xy (ov := ov) i1 i2 w8 h8 a4 a6
    rw [(tu_x h hb').1, (tu_x h hb').2, show tuP ov B P b = tpl ov (bw B) (bh B) (xW B b) (xH B b) (P b) from if_pos hb', t1, t2]
    show _ ≤ nwT ov (bw B) (bh B) ∧ _ ≤ nwT ov (bh B) (bw B)
    unfold nwT
    cases ov with
    | true => simp only [if_true]; omega
    | false => simp only [Bool.false_eq_true, if_false]; omega
  · rw [tu_fb h hP.1.1 hb hf, Bool.and_eq_true] at e1
    rw [tu_fb h hP.1.1 hc hf, Bool.and_eq_true] at e2
    exact hP.1.2.1 b c _ hb hc (p64 f hf) e1.2 e2.2
  · rw [tu_fb h hP.1.1 hb hf, Bool.and_eq_true] at e
    show (decide (f % 8 < nwT ov (bw B) (bh B)) && bwl B (pre ov (bw B) (bh B) f)) = false
    rw [hP.1.2.2 b _ hb (p64 f hf) e.2, Bool.and_false]
  · have hb' : b < bn B := hb
    have e' : bK B b = 5 := e
    obtain ⟨i1, i2⟩ := hP.1.1 b hb'
    obtain ⟨g1, g2, g3, g4⟩ := hP.2.2 b hb' e'
    obtain ⟨a1, a2, a3, a4, a5, a6, a7, a8⟩ := basOk_wh h hb'
    obtain ⟨t1, t2, t3⟩ := tpl_xy (ov := ov) i1 i2 w8 h8 a4 a6
    obtain ⟨u1, u2, u3⟩ := tpl_xy (ov := ov) g3 g4 w8 h8 a4 a6
    rw [(tu_x h hb').1, (tu_x h hb').2, show tuP ov B P b = tpl ov (bw B) (bh B) (xW B b) (xH B b) (P b) from if_pos hb', show bG (tuB ov B) b = tpl ov (bw B) (bh B) (xW B b) (xH B b) (bG B b) from rfl, t1, t2, u1, u2, show bY (tuB ov B) b = (if ov = true then bY B b else if bK B b = 1 ∨ bK B b = 5 then 1 - bY B b else bY B b) from rfl, if_pos (Or.inr e')]
    show _ ∧ _ ∧ _ ≤ nwT ov (bw B) (bh B) ∧ _ ≤ nwT ov (bh B) (bw B)
    unfold nwT
    cases ov with
    | true => simp only [if_true]; omega
    | false => simp only [Bool.false_eq_true, if_false]; omega
/-- walls of the image are inside it -/
theorem tu_out {ov : Bool} {B : Bas} (h : basOk B) (ho : ∀ f, f < 64 → (bw B ≤ f % 8 ∨ bh B ≤ f / 8) → bwl B f = false) : ∀ f, f < 64 → (bw (tuB ov B) ≤ f % 8 ∨ bh (tuB ov B) ≤ f / 8) → bwl (tuB ov B) f = false := by
  have w8 := h.2.1
  have h8 := h.2.2.2.1
  have w3 := h.1
  have h3 := h.2.2.1
  intro f hf q
  have q' : nwT ov (bw B) (bh B) ≤ f % 8 ∨ nwT ov (bh B) (bw B) ≤ f / 8 := q
  show (decide (f % 8 < nwT ov (bw B) (bh B)) && bwl B (pre ov (bw B) (bh B) f)) = false
  by_cases z : f % 8 < nwT ov (bw B) (bh B)
  · rw [ho _ (pre_64 hf w8 h8 (by omega) (by omega)) (by
      unfold nwT at q' z
      unfold pre
      cases ov with
      | true => simp only [if_true] at *; omega
      | false => simp only [Bool.false_eq_true, if_false] at *; omega), Bool.and_false]
  · rw [decide_eq_false z, Bool.false_and]
