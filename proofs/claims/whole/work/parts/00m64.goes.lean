/-! The reference's exploration: what its rows hold. A: the moves (stand, move) that were tried, in order. -/
def gt (L : List (Nat → Nat)) (i : Nat) : Nat → Nat := L.getD i (fun _ => 0)
theorem gt_at {L : List (Nat → Nat)} {i : Nat} (hi : i < L.length) : gt L i = L[i] := by
  unfold gt
  rw [List.getD_eq_getElem?_getD, List.getElem?_eq_getElem hi]; rfl
theorem gt_app {L l : List (Nat → Nat)} {i : Nat} (hi : i < L.length) : gt (L ++ l) i = gt L i := by
  rw [gt_at hi, gt_at (by rw [List.length_append]; omega), List.getElem_append_left hi]
theorem gt_new {L : List (Nat → Nat)} {v : Nat → Nat} : gt (L ++ [v]) L.length = v := by
  rw [gt_at (by simp)]; simp
theorem gt_mem {L : List (Nat → Nat)} {i : Nat} (hi : i < L.length) : gt L i ∈ L := by rw [gt_at hi]; exact List.getElem_mem hi
def eR (L : List (Nat → Nat)) (A : List (Nat × Nat)) (ked keb : Nat → Int32) : Prop := ∀ k, (hk : k < A.length) → ∃ i, i < L.length ∧ ked k = nI i ∧ gt L i = tgt (gt L A[k].1) A[k].2 ∧ keb k = nI (A[k].2 / 32)
def lexP (p q : Nat × Nat) : Prop := p.1 < q.1 ∨ (p.1 = q.1 ∧ p.2 < q.2)
def tR (L : List (Nat → Nat)) (A : List (Nat × Nat)) (par mno dep : Nat → Nat) (kdp kpr kbb kby kbs : Nat → Int32) : Prop :=
  dep 0 = 0 ∧ (∀ i, i < L.length → kdp i = nI (dep i) ∧ dep i ≤ i) ∧ ∀ i, 0 < i → i < L.length → (par i, mno i) ∈ A ∧ par i < i ∧ kpr i = nI (par i) ∧ kbb i = nI (mno i / 32) ∧ kby i = nI (mno i / 8 % 4) ∧ kbs i = nI (mno i % 8) ∧ gt L i = tgt (gt L (par i)) (mno i) ∧ dep i = dep (par i) + 1 ∧
    ∀ p, p ∈ A → lexP p (par i, mno i) → ∃ i', i' < i ∧ gt L i' = tgt (gt L p.1) p.2
def rX (L : List (Nat → Nat)) (A : List (Nat × Nat)) (kdp kpr kbb kby kbs ked keb : Nat → Int32) : Prop := (∀ p, p ∈ A → p.1 < L.length) ∧ eR L A ked keb ∧ ∃ par mno dep, tR L A par mno dep kdp kpr kbb kby kbs
theorem eR_ext {L l : List (Nat → Nat)} {A : List (Nat × Nat)} {ked keb : Nat → Int32} {s c i : Nat} (hA : ∀ p, p ∈ A → p.1 < L.length) (h : eR L A ked keb) (hs : s < L.length) (hi : i < (L ++ l).length) (he : gt (L ++ l) i = tgt (gt L s) c) : eR (L ++ l) (A ++ [(s, c)]) (upd ked A.length (nI i)) (upd keb A.length (nI (c / 32))) := by
  intro k hk
  rw [List.length_append, List.length_singleton] at hk
  by_cases e : k = A.length
  · subst e
    have g : (A ++ [(s, c)])[A.length]'(by simp) = (s, c) := by simp
    refine ⟨i, hi, pk_us, ?_, ?_⟩
    · rw [g, he, gt_app hs]
    · rw [g, pk_us]
  · have hk' : k < A.length := by omega
    have g : (A ++ [(s, c)])[k]'(by rw [List.length_append]; omega) = A[k] := List.getElem_append_left hk'
    obtain ⟨i', h1, h2, h3, h4⟩ := h k hk'
    refine ⟨i', by rw [List.length_append]; omega, by rw [pk_un e]; exact h2, ?_, by rw [pk_un e, g]; exact h4⟩
    rw [g, gt_app h1, gt_app (hA _ (List.getElem_mem hk')), h3]
theorem rX_old {L : List (Nat → Nat)} {A : List (Nat × Nat)} {kdp kpr kbb kby kbs ked keb : Nat → Int32} {s c i : Nat} (h : rX L A kdp kpr kbb kby kbs ked keb) (hs : s < L.length) (hlex : ∀ p, p ∈ A → lexP p (s, c)) (hi : i < L.length) (he : gt L i = tgt (gt L s) c) :
    rX L (A ++ [(s, c)]) kdp kpr kbb kby kbs (upd ked A.length (nI i)) (upd keb A.length (nI (c / 32))) := by
  obtain ⟨h1, h2, par, mno, dep, d0, d1, d2⟩ := h
  refine ⟨?_, ?_, par, mno, dep, d0, d1, ?_⟩
  · intro p hp
    rcases List.mem_append.mp hp with z | z
    · exact h1 p z
    · rw [List.mem_singleton.mp z]; exact hs
  · have := eR_ext (l := []) (i := i) (c := c) h1 h2 hs (by rw [List.append_nil]; exact hi) (by rw [List.append_nil]; exact he)
    rw [List.append_nil] at this
    exact this
  · intro j hj0 hj
    obtain ⟨a1, a2, a3, a4, a5, a6, a7, a8, a9⟩ := d2 j hj0 hj
    refine ⟨List.mem_append_left _ a1, a2, a3, a4, a5, a6, a7, a8, ?_⟩
    intro p hp hl
    rcases List.mem_append.mp hp with z | z
    · exact a9 p z hl
    · rw [List.mem_singleton.mp z] at hl
      have l2 := hlex _ a1
      unfold lexP at hl l2
      simp only at hl l2
      omega
theorem rX_new {L : List (Nat → Nat)} {A : List (Nat × Nat)} {kdp kpr kbb kby kbs ked keb : Nat → Int32} {s c dv : Nat} {v : Nat → Nat} (h : rX L A kdp kpr kbb kby kbs ked keb) (hs : s < L.length) (hlex : ∀ p, p ∈ A → lexP p (s, c)) (hv : v = tgt (gt L s) c) (hd : kdp s = nI dv) (hsz : L.length < 2 ^ 31) :
    rX (L ++ [v]) (A ++ [(s, c)]) (upd kdp L.length (kdp s + 1)) (upd kpr L.length (nI s)) (upd kbb L.length (nI (c / 32))) (upd kby L.length (nI (c / 8 % 4))) (upd kbs L.length (nI (c % 8))) (upd ked A.length (nI L.length)) (upd keb A.length (nI (c / 32))) := by
  obtain ⟨h1, h2, par, mno, dep, d0, d1, d2⟩ := h
  have len : (L ++ [v]).length = L.length + 1 := by simp
  have l0 : 0 < L.length := by omega
  refine ⟨?_, ?_, updN par L.length s, updN mno L.length c, updN dep L.length (dep s + 1), ?_, ?_, ?_⟩
  · intro p hp
    rw [len]
    rcases List.mem_append.mp hp with z | z
    · have := h1 p z; omega
    · rw [List.mem_singleton.mp z]; show s < _; omega
  · exact eR_ext h1 h2 hs (by rw [len]; omega) (by rw [gt_new, hv])
  · rw [updN_n (by omega)]; exact d0
  · intro i hi
    rw [len] at hi
    by_cases e : i = L.length
    · subst e
      rw [pk_us, updN_s, (d1 s hs).1, nI_1]
      have := (d1 s hs).2
      exact ⟨rfl, by omega⟩
    · rw [pk_un e, updN_n e]; exact d1 i (by omega)
  · intro i hi0 hi
    rw [len] at hi
    by_cases e : i = L.length
    · subst e
      simp only [pk_us, updN_s]
      refine ⟨by simp, hs, trivial, trivial, trivial, trivial, ?_, ?_, ?_⟩
      · rw [gt_new, gt_app hs, hv]
      · rw [updN_n (by omega)]
      · intro p hp hl
        rcases List.mem_append.mp hp with z | z
        · obtain ⟨k, hk, ek⟩ := List.getElem_of_mem z
          obtain ⟨i', q1, q2, q3, q4⟩ := h2 k hk
          rw [ek] at q3
          exact ⟨i', q1, by rw [gt_app q1, gt_app (h1 p z)]; exact q3⟩
        · rw [List.mem_singleton.mp z] at hl
          unfold lexP at hl
          simp only at hl
          omega
    · obtain ⟨a1, a2, a3, a4, a5, a6, a7, a8, a9⟩ := d2 i hi0 (by omega)
      rw [pk_un e, pk_un e, pk_un e, pk_un e, updN_n e, updN_n e, updN_n e, updN_n (show par i ≠ L.length by omega)]
      refine ⟨List.mem_append_left _ a1, a2, a3, a4, a5, a6, ?_, a8, ?_⟩
      · rw [gt_app (show i < L.length by omega), gt_app (show par i < L.length by omega)]; exact a7
      · intro p hp hl
        rcases List.mem_append.mp hp with z | z
        · obtain ⟨i', q1, q2⟩ := a9 p z hl
          exact ⟨i', q1, by rw [gt_app (show i' < L.length by omega), gt_app (h1 p z)]; exact q2⟩
        · rw [List.mem_singleton.mp z] at hl
          have l2 := hlex _ a1
          unfold lexP at hl l2
          simp only at hl l2
          omega
