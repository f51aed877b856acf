/-! What the lists of stands have in common. -/
theorem Lk_min {sc : (Nat → Nat) → List (Nat → Nat)} {v0 : Nat → Nat} {S : (Nat → Nat) → Prop} (h0 : S v0) (hS : ∀ v, S v → ∀ u, u ∈ sc v → S u) : ∀ m v, v ∈ Lk sc v0 m → S v
  | 0, v, hv => by
    have : v = v0 := by simpa [Lk] using hv
    rw [this]; exact h0
  | m + 1, v, hv => by
    by_cases h : m < (Lk sc v0 m).length
    · rw [Lk_go h, foldL_mem] at hv
      rcases hv with z | z
      · exact Lk_min h0 hS m v z
      · exact hS _ (Lk_min h0 hS m _ (List.getElem_mem h)) v z
    · rw [Lk_stop h] at hv
      exact Lk_min h0 hS m v hv
theorem Lk_start {sc : (Nat → Nat) → List (Nat → Nat)} {v0 : Nat → Nat} (m : Nat) : ∃ h : 0 < (Lk sc v0 m).length, (Lk sc v0 m)[0] = v0 := by
  obtain ⟨l, e⟩ := Lk_pre 0 m (sc := sc) (v0 := v0)
  rw [Nat.zero_add] at e
  have e2 : Lk sc v0 m = [v0] ++ l := e
  refine ⟨by rw [e2]; simp, ?_⟩
  simp only [e2]
  rfl
theorem Lk_clos {sc : (Nat → Nat) → List (Nat → Nat)} {v0 : Nat → Nat} {m : Nat} (h : (Lk sc v0 m).length ≤ m) : ∀ v, v ∈ Lk sc v0 m → ∀ u, u ∈ sc v → u ∈ Lk sc v0 m := by
  intro v hv u hu
  obtain ⟨s, hs, es⟩ := List.getElem_of_mem hv
  -- at step s the list had s
  have grow : ∀ k, k ≤ s → k < (Lk sc v0 k).length := by
    intro k hk
    apply Nat.lt_of_not_le
    intro z
    have e := Lk_end z (m - k)
    rw [show k + (m - k) = m by omega] at e
    rw [e] at hs
    omega
  have gs := grow s (Nat.le_refl _)
  obtain ⟨l, el⟩ := Lk_pre s (m - s) (sc := sc) (v0 := v0)
  rw [show s + (m - s) = m by omega] at el
  have ev : (Lk sc v0 s)[s] = v := by
    have a : (Lk sc v0 m)[s] = (Lk sc v0 s ++ l)[s]'(by rw [List.length_append]; omega) := by simp only [el]
    rw [← es, a, List.getElem_append_left gs]
  obtain ⟨l2, el2⟩ := Lk_pre (s + 1) (m - (s + 1)) (sc := sc) (v0 := v0)
  rw [show s + 1 + (m - (s + 1)) = m by omega] at el2
  rw [el2]
  apply List.mem_append_left
  rw [Lk_go gs, foldL_mem, ev]
  exact Or.inr hu
theorem sub_len {α : Type} {l m : List α} (h : l.Nodup) (hs : ∀ x, x ∈ l → x ∈ m) : l.length ≤ m.length := by
  have ex : ∀ i, i < l.length → ∃ j, ∃ hj : j < m.length, ∃ hi : i < l.length, m[j] = l[i] := by
    intro i hi
    obtain ⟨j, hj, e⟩ := List.getElem_of_mem (hs _ (List.getElem_mem hi))
    exact ⟨j, hj, hi, e⟩
  have cl : ∃ f : Nat → Nat, ∀ i, i < l.length → ∃ hj : f i < m.length, ∃ hi : i < l.length, m[f i] = l[i] := by
    refine ⟨fun i => @dite _ (i < l.length) (Classical.propDecidable _) (fun h => Classical.choose (ex i h)) (fun _ => 0), fun i hi => ?_⟩
    have : (@dite _ (i < l.length) (Classical.propDecidable _) (fun h => Classical.choose (ex i h)) (fun _ => 0)) = Classical.choose (ex i hi) := dif_pos hi
    simp only [this]
    exact Classical.choose_spec (ex i hi)
  obtain ⟨f, hf⟩ := cl
  refine pigeon m.length l.length f (fun s hs' => (hf s hs').1) ?_
  intro s t hs' ht e
  obtain ⟨a1, a2, a3⟩ := hf s hs'
  obtain ⟨b1, b2, b3⟩ := hf t ht
  refine nd_inj h a2 b2 ?_
  rw [← a3, ← b3]
  simp only [e]
theorem sucB_mem {B : Bas} {most : Nat} {v u : Nat → Nat} : u ∈ sucB B most v ↔ ∃ c, c ∈ mvs B v most false ∧ tgt v c = u := by
  unfold sucB
  rw [List.mem_map]
theorem FL_clsd {B : Bas} {most : Nat} {P : Nat → Nat} (h : (FL B most P).length ≤ 6000) : clsd B most (FL B most P) := by
  intro v hv c hc
  have l0 : (Lk (sucB B most) P 6000).length ≤ 6000 := Nat.le_trans (Lk_len (show 6000 ≤ 6001 by decide)) h
  have e : FL B most P = Lk (sucB B most) P 6000 := Lk_end l0 1
  rw [e] at hv ⊢
  exact Lk_clos l0 v hv _ (sucB_mem.mpr ⟨c, hc, rfl⟩)
theorem FL_nd {B : Bas} {most : Nat} {P : Nat → Nat} : (FL B most P).Nodup := Lk_nodup 6001
theorem FL_0 {B : Bas} {most : Nat} {P : Nat → Nat} : ∃ h : 0 < (FL B most P).length, (FL B most P)[0] = P := Lk_start 6001
theorem FL_in0 {B : Bas} {most : Nat} {P : Nat → Nat} : P ∈ FL B most P := by
  obtain ⟨z0, z1⟩ := FL_0 (B := B) (most := most) (P := P)
  have m := List.getElem_mem z0
  rw [z1] at m
  exact m
theorem FL_st {B : Bas} {most : Nat} {P : Nat → Nat} (h : basOk B) (hP : stC B P) : ∀ v, v ∈ FL B most P → stC B v := by
  intro v hv
  refine Lk_min (S := stC B) hP ?_ 6001 v hv
  intro v hv u hu
  obtain ⟨c, hc, e⟩ := sucB_mem.mp hu
  rw [← e]
  exact mvs_can h hv hc
/-- a move of one step is a move -/
theorem mvs_17 {B : Bas} {v : Nat → Nat} {c : Nat} {bk : Bool} (h : c ∈ mvs B v 1 bk) : c ∈ mvs B v 7 bk := by
  obtain ⟨b, d, k, hb, hd, h1, h2, h3, e⟩ := mvs_mem.mp h
  exact mvs_mem.mpr ⟨b, d, k, hb, hd, h1, by omega, h3, e⟩
/-- what holds single steps holds moves -/
theorem cls_17 {B : Bas} {S : (Nat → Nat) → Prop} (h : basOk B) (hst : ∀ v, S v → stOk B v) (hS : ∀ v, S v → ∀ c, c ∈ mvs B v 1 false → S (tgt v c)) : ∀ v, S v → ∀ c, c ∈ mvs B v 7 false → S (tgt v c) := by
  intro v hv c hc
  obtain ⟨b, d, k, hb, hd, h1, h2, h3, e⟩ := mvs_mem.mp hc
  rw [e, tgt_code hd (by omega)]
  have way : ∀ j, j ≤ k → S (updN v b (nxtk d (v b) j)) := by
    intro j
    induction j with
    | zero => intro _; show S (updN v b (v b)); rw [updN_self]; exact hv
    | succ j ih =>
      intro hj
      have s0 := ih (by omega)
      have w := room_way (show j < room B v b d false by omega)
      have r1 : 1 ≤ room B (updN v b (nxtk d (v b) j)) b d false := by
        unfold room
        rw [roomA_iff]
        refine ⟨by decide, fun i hi => ?_⟩
        have : i = 0 := by omega
        subst this
        rw [updN_s, hnd_upd]
        exact w
      have := hS _ s0 (32 * b + 8 * d + 1) (mvs_mem.mpr ⟨b, d, 1, hb, hd, by omega, by omega, r1, rfl⟩)
      rw [tgt_code hd (by omega), updN_two, updN_s] at this
      rw [nxtk_s]
      exact this
  exact way k (Nat.le_refl _)
/-- single steps and moves come to the same stands -/
theorem FL_17 {B : Bas} {P : Nat → Nat} (h : basOk B) (hP : stC B P) : ((FL B 1 P).length ≤ 6000 ↔ (FL B 7 P).length ≤ 6000) ∧ ((FL B 7 P).length ≤ 6000 → ∀ v, v ∈ FL B 1 P ↔ v ∈ FL B 7 P) := by
  have a : (FL B 7 P).length ≤ 6000 → ∀ v, v ∈ FL B 1 P → v ∈ FL B 7 P := by
    intro h7 v hv
    refine Lk_min (S := fun v => v ∈ FL B 7 P) FL_in0 ?_ 6001 v hv
    intro v hv u hu
    obtain ⟨c, hc, e⟩ := sucB_mem.mp hu
    rw [← e]
    exact FL_clsd h7 v hv c (mvs_17 hc)
  have b : (FL B 1 P).length ≤ 6000 → ∀ v, v ∈ FL B 7 P → v ∈ FL B 1 P := by
    intro h1 v hv
    refine Lk_min (S := fun v => v ∈ FL B 1 P) FL_in0 ?_ 6001 v hv
    intro v hv u hu
    obtain ⟨c, hc, e⟩ := sucB_mem.mp hu
    rw [← e]
    exact cls_17 h (fun v hv => (FL_st h hP v hv).1) (FL_clsd h1) v hv c hc
  have i1 : (FL B 7 P).length ≤ 6000 → (FL B 1 P).length ≤ 6000 := fun h7 => Nat.le_trans (sub_len FL_nd (a h7)) h7
  have i2 : (FL B 1 P).length ≤ 6000 → (FL B 7 P).length ≤ 6000 := fun h1 => Nat.le_trans (sub_len FL_nd (b h1)) h1
  exact ⟨⟨i2, i1⟩, fun h7 v => ⟨a h7 v, b (i1 h7) v⟩⟩
theorem clsd_7 {B : Bas} {P : Nat → Nat} (h : (FL B 7 P).length ≤ 6000) (most : Nat) (hm : most = 1 ∨ most = 7) : clsd B most (FL B 7 P) := by
  rcases hm with e | e
  · subst e
    intro v hv c hc
    exact FL_clsd h v hv c (mvs_17 hc)
  · subst e; exact FL_clsd h
theorem prA_mem {B : Bas} {most : Nat} {L : List (Nat → Nat)} {s n c : Nat} (hs : s < n) (hc : c ∈ mvs B (gt L s) most false) : (s, c) ∈ prA B most L n := by
  unfold prA
  rw [List.mem_flatMap]
  refine ⟨s, List.mem_range.mpr hs, ?_⟩
  unfold prs
  exact List.mem_map.mpr ⟨c, hc, rfl⟩
theorem prA_mvs {B : Bas} {most : Nat} {L : List (Nat → Nat)} {n : Nat} {p : Nat × Nat} (hp : p ∈ prA B most L n) : p.2 ∈ mvs B (gt L p.1) most false := by
  unfold prA at hp
  obtain ⟨s', h1, h2⟩ := List.mem_flatMap.mp hp
  have := prs_mem h2
  rw [this.1]; exact this.2
