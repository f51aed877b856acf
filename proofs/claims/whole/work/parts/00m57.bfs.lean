/-! Distances by a queue, without the machine. -/
def dvO (D : Nat → Option Nat) (u : Nat) : Nat := (D u).getD 0
theorem nd_inj {α : Type} {l : List α} (h : l.Nodup) {i j : Nat} (hi : i < l.length) (hj : j < l.length) (e : l[i] = l[j]) : i = j := (List.getElem_inj (h₀ := hi) (h₁ := hj) h).mp e
theorem nd_len {l : List Nat} {N : Nat} (h : l.Nodup) (hb : ∀ u, u ∈ l → u < N) : l.length ≤ N := by
  refine pigeon N l.length (fun i => l.getD i 0) ?_ ?_
  · intro s hs
    show l.getD s 0 < N
    rw [List.getD_eq_getElem?_getD, List.getElem?_eq_getElem hs]
    exact hb _ (List.getElem_mem hs)
  · intro s t hs ht e
    have e2 : l.getD s 0 = l.getD t 0 := e
    rw [List.getD_eq_getElem?_getD, List.getD_eq_getElem?_getD, List.getElem?_eq_getElem hs, List.getElem?_eq_getElem ht] at e2
    exact nd_inj h hs ht e2
/-- the queue Q, of which i are done, and the distances so far -/
def bfsI (N : Nat) (edge : Nat → Nat → Prop) (fr : Nat → Bool) (Q : List Nat) (D : Nat → Option Nat) (i : Nat) : Prop :=
  (Q.Nodup ∧ ∀ u, u ∈ Q → u < N) ∧ (∀ u, u < N → (u ∈ Q ↔ D u ≠ none)) ∧ (∀ j j', (hj : j < Q.length) → (hj' : j' < Q.length) → j ≤ j' → dvO D Q[j] ≤ dvO D Q[j']) ∧
  ((hi : i < Q.length) → ∀ j, (hj : j < Q.length) → dvO D Q[j] ≤ dvO D Q[i] + 1) ∧ (∀ j, (hj : j < Q.length) → dvO D Q[j] ≤ j) ∧
  (∀ u, u < N → (D u = some 0 ↔ fr u = true)) ∧ (∀ u k, u < N → D u = some (k + 1) → ∃ a, a < N ∧ edge u a ∧ D a = some k) ∧
  (∀ j, (hj : j < Q.length) → j < i → ∀ u, u < N → edge u Q[j] → ∃ k', D u = some k' ∧ k' ≤ dvO D Q[j] + 1)
def updO (D : Nat → Option Nat) (u k : Nat) : Nat → Option Nat := fun v => if v = u then some k else D v
theorem updO_s {D : Nat → Option Nat} {u k : Nat} : updO D u k u = some k := if_pos rfl
theorem updO_n {D : Nat → Option Nat} {u k v : Nat} (h : v ≠ u) : updO D u k v = D v := if_neg h
theorem dvO_some {D : Nat → Option Nat} {u k : Nat} (h : D u = some k) : dvO D u = k := by unfold dvO; rw [h]; rfl
theorem dvO_n {D : Nat → Option Nat} {u k v : Nat} (h : v ≠ u) : dvO (updO D u k) v = dvO D v := by unfold dvO; rw [updO_n h]
theorem some_dv {D : Nat → Option Nat} {u : Nat} (h : D u ≠ none) : D u = some (dvO D u) := by
  unfold dvO
  cases e : D u with
  | none => exact absurd e h
  | some k => rfl
theorem bfs_enq {N : Nat} {edge : Nat → Nat → Prop} {fr : Nat → Bool} {Q : List Nat} {D : Nat → Option Nat} {i u : Nat} (h : bfsI N edge fr Q D i) (hi : i < Q.length) (hu : u < N) (hn : D u = none) (he : edge u Q[i]) :
    bfsI N edge fr (Q ++ [u]) (updO D u (dvO D Q[i] + 1)) i ∧ (Q ++ [u]).length ≤ N := by
  obtain ⟨⟨q1, q1'⟩, q2, q3, q4, q5, qa, qb, qc⟩ := h
  have nu : ¬ u ∈ Q := fun z => (q2 u hu).mp z hn
  have ne : ∀ v, v ∈ Q → v ≠ u := fun v hv z => nu (z ▸ hv)
  have nd : (Q ++ [u]).Nodup := by
    rw [List.nodup_append]
    refine ⟨q1, by simp, ?_⟩
    intro a ha b hb e
    rw [List.mem_singleton] at hb
    exact ne a ha (by rw [e, hb])
  have lt : ∀ v, v ∈ Q ++ [u] → v < N := by
    intro v hv
    rcases List.mem_append.mp hv with z | z
    · exact q1' v z
    · rw [List.mem_singleton.mp z]; exact hu
  have len : (Q ++ [u]).length = Q.length + 1 := by simp
  have old : ∀ j, (hj : j < Q.length) → dvO (updO D u (dvO D Q[i] + 1)) Q[j] = dvO D Q[j] := fun j hj => dvO_n (ne _ (List.getElem_mem hj))
  have gl : ∀ j, (hj : j < Q.length) → (Q ++ [u])[j]'(by rw [len]; omega) = Q[j] := fun j hj => List.getElem_append_left hj
  have gr : (Q ++ [u])[Q.length]'(by rw [len]; omega) = u := by simp
  have nw : dvO (updO D u (dvO D Q[i] + 1)) u = dvO D Q[i] + 1 := dvO_some updO_s
  have dq : D Q[i] = some (dvO D Q[i]) := some_dv ((q2 _ (q1' _ (List.getElem_mem hi))).mp (List.getElem_mem hi))
  refine ⟨⟨⟨nd, lt⟩, ?_, ?_, ?_, ?_, ?_, ?_, ?_⟩, nd_len nd lt⟩
  · intro v hv
    by_cases e : v = u
    · subst e
      rw [updO_s]
      exact ⟨fun _ z => by (cases z), fun _ => by simp⟩
    · rw [updO_n e, ← q2 v hv, List.mem_append, List.mem_singleton]
      exact ⟨fun z => z.elim id (fun y => absurd y e), Or.inl⟩
  · intro j j' hj hj' hle
    rw [len] at hj hj'
    by_cases e' : j' = Q.length
    · subst e'
      rw [gr, nw]
      by_cases e : j = Q.length
      · subst e; rw [gr, nw]; exact Nat.le_refl _
      · rw [gl j (by omega), old j (by omega)]
        exact q4 hi j (by omega)
    · rw [gl j (by omega), gl j' (by omega), old j (by omega), old j' (by omega)]
      exact q3 j j' (by omega) (by omega) hle
  · intro hi' j hj
    rw [len] at hj
    rw [gl i hi, old i hi]
    by_cases e : j = Q.length
    · subst e; rw [gr, nw]; exact Nat.le_refl _
    · rw [gl j (by omega), old j (by omega)]
      exact q4 hi j (by omega)
  · intro j hj
    rw [len] at hj
    by_cases e : j = Q.length
    · subst e; rw [gr, nw]
      have := q5 i hi
      omega
    · rw [gl j (by omega), old j (by omega)]
      exact q5 j (by omega)
  · intro v hv
    by_cases e : v = u
    · subst e
      rw [updO_s]
      constructor
      · intro z
        have : dvO D Q[i] + 1 = 0 := Option.some.inj z
        omega
      · intro z
        rw [(qa v hv).mpr z] at hn
        cases hn
    · rw [updO_n e]; exact qa v hv
  · intro v k hv hk
    have keep : ∀ a m, a < N → D a = some m → updO D u (dvO D Q[i] + 1) a = some m := by
      intro a m ha hm
      rw [updO_n]
      · exact hm
      · intro z; rw [z, hn] at hm; cases hm
    by_cases e : v = u
    · subst e
      rw [updO_s] at hk
      have : dvO D Q[i] = k := by
        have := Option.some.inj hk
        omega
      exact ⟨Q[i], q1' _ (List.getElem_mem hi), he, keep _ _ (q1' _ (List.getElem_mem hi)) (by rw [dq, this])⟩
    · rw [updO_n e] at hk
      obtain ⟨a, h1, h2, h3⟩ := qb v k hv hk
      exact ⟨a, h1, h2, keep a k h1 h3⟩
  · intro j hj hji v hv hed
    have hjQ : j < Q.length := by omega
    rw [gl j hjQ] at hed ⊢
    rw [old j hjQ]
    obtain ⟨k', h1, h2⟩ := qc j hjQ hji v hv hed
    refine ⟨k', ?_, h2⟩
    rw [updO_n]
    · exact h1
    · intro z; rw [z, hn] at h1; cases h1
/-- one more is done -/
theorem bfs_next {N : Nat} {edge : Nat → Nat → Prop} {fr : Nat → Bool} {Q : List Nat} {D : Nat → Option Nat} {i : Nat} (h : bfsI N edge fr Q D i) (hi : i < Q.length) (hd : ∀ u, u < N → edge u Q[i] → D u ≠ none) : bfsI N edge fr Q D (i + 1) := by
  obtain ⟨q1, q2, q3, q4, q5, qa, qb, qc⟩ := h
  refine ⟨q1, q2, q3, ?_, q5, qa, qb, ?_⟩
  · intro hi' j hj
    have h1 := q4 hi j hj
    have h2 := q3 i (i + 1) hi hi' (by omega)
    omega
  · intro j hj hji u hu he
    by_cases e : j = i
    · subst e
      have nn := hd u hu he
      obtain ⟨t, ht, et⟩ := List.getElem_of_mem ((q2 u hu).mpr nn)
      refine ⟨dvO D u, some_dv nn, ?_⟩
      have := q4 hi t ht
      rw [et] at this
      exact this
    · exact qc j hj (by omega) u hu he
theorem bfs_end {N : Nat} {edge : Nat → Nat → Prop} {fr : Nat → Bool} {Q : List Nat} {D : Nat → Option Nat} (h : bfsI N edge fr Q D Q.length) : distOk N edge fr D := by
  obtain ⟨q1, q2, q3, q4, q5, qa, qb, qc⟩ := h
  refine ⟨qa, qb, ?_⟩
  intro u a k hu ha he hk
  have ma : a ∈ Q := (q2 a ha).mpr (by rw [hk]; intro z; cases z)
  obtain ⟨j, hj, ej⟩ := List.getElem_of_mem ma
  obtain ⟨k', h1, h2⟩ := qc j hj hj u hu (by rw [ej]; exact he)
  rw [ej, dvO_some hk] at h2
  exact ⟨k', h2, h1⟩
/-- the start: all that are freed, in order -/
theorem bfs_start {N : Nat} {edge : Nat → Nat → Prop} {fr : Nat → Bool} {Q : List Nat} {D : Nat → Option Nat} (h1 : Q.Nodup) (h2 : ∀ u, u ∈ Q ↔ u < N ∧ fr u = true) (h3 : ∀ u, u < N → D u = if fr u then some 0 else none) : bfsI N edge fr Q D 0 := by
  have d0 : ∀ u, u < N → dvO D u = 0 := by
    intro u hu
    unfold dvO
    rw [h3 u hu]
    cases fr u <;> rfl
  have q0 : ∀ j, (hj : j < Q.length) → dvO D Q[j] = 0 := fun j hj => d0 _ ((h2 _).mp (List.getElem_mem hj)).1
  refine ⟨⟨h1, fun u hu => ((h2 u).mp hu).1⟩, ?_, ?_, ?_, ?_, ?_, ?_, ?_⟩
  · intro u hu
    rw [h2 u, h3 u hu]
    cases e : fr u
    · exact ⟨fun z => by (cases z.2), fun z => absurd rfl z⟩
    · exact ⟨fun _ z => by (cases z), fun _ => ⟨hu, rfl⟩⟩
  · intro j j' hj hj' _
    rw [q0 j hj, q0 j' hj']; exact Nat.le_refl _
  · intro hi j hj
    rw [q0 j hj]; exact Nat.zero_le _
  · intro j hj
    rw [q0 j hj]; exact Nat.zero_le _
  · intro u hu
    rw [h3 u hu]
    cases e : fr u
    · exact ⟨fun z => by (cases z), fun z => by (cases z)⟩
    · exact ⟨fun _ => rfl, fun _ => rfl⟩
  · intro u k hu hk
    rw [h3 u hu] at hk
    cases e : fr u
    · rw [e] at hk; cases hk
    · rw [e] at hk
      have : (0 : Nat) = k + 1 := Option.some.inj hk
      omega
  · intro j hj hji
    omega
