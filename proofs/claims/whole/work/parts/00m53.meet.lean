/-! The class's meet. -/
theorem sl_app {L : List (Nat → Nat)} {v : Nat → Nat} {sl sf : Nat → Nat} {s : Nat} (ho : slO L sl sf) (hs : s < 16384) (h0 : sl s = 0) (ht : ∃ t, t < 16384 ∧ s = (slot0 v + t) % 16384 ∧ ∀ j, j < t → sl ((slot0 v + j) % 16384) ≠ 0) :
    slO (L ++ [v]) (updN sl s (L.length + 1)) (updN sf L.length s) := by
  have len : (L ++ [v]).length = L.length + 1 := by simp
  refine ⟨?_, ?_, ?_⟩
  · intro i hi
    rw [len] at hi
    by_cases e : i = L.length
    · subst e; rw [updN_s, updN_s]; exact ⟨hs, rfl⟩
    · obtain ⟨a, b⟩ := ho.1 i (by omega)
      have ne : sf i ≠ s := fun z => by rw [z, h0] at b; omega
      rw [updN_n e, updN_n ne]
      exact ⟨a, b⟩
  · intro s' hs' hn
    rw [len]
    by_cases e : s' = s
    · subst e
      rw [updN_s, Nat.add_sub_cancel, updN_s]
      exact ⟨Nat.le_refl _, rfl⟩
    · rw [updN_n e] at hn ⊢
      obtain ⟨a, b⟩ := ho.2.1 s' hs' hn
      rw [updN_n (show sl s' - 1 ≠ L.length by omega)]
      exact ⟨by omega, b⟩
  · intro i hi
    rw [len] at hi
    by_cases e : i = L.length
    · subst e
      obtain ⟨t, h1, h2, h3⟩ := ht
      refine ⟨t, h1, ?_, ?_⟩
      · rw [updN_s, List.getElem_append_right (Nat.le_refl _)]
        simpa using h2
      · intro j hj
        rw [List.getElem_append_right (Nat.le_refl _)]
        have := h3 j hj
        unfold updN
        split
        · omega
        · simpa using this
    · obtain ⟨t, h1, h2, h3⟩ := ho.2.2 i (by omega)
      refine ⟨t, h1, ?_, ?_⟩
      · rw [updN_n e, List.getElem_append_left (by omega)]
        exact h2
      · intro j hj
        rw [List.getElem_append_left (by omega)]
        have := h3 j hj
        unfold updN
        split
        · omega
        · exact this
theorem cs_app {L : List (Nat → Nat)} {v : Nat → Nat} {klow khigh : Nat → Int64} (h : csL L klow khigh) : csL (L ++ [v]) (vp_updL klow L.length (lN (eL v))) (vp_updL khigh L.length (lN (eH v))) := by
  intro i hi
  rw [List.length_append, List.length_singleton] at hi
  by_cases e : i = L.length
  · subst e
    rw [pk_uLs, pk_uLs, List.getElem_append_right (Nat.le_refl _)]
    simp
  · rw [pk_uLn e, pk_uLn e, List.getElem_append_left (by omega)]
    exact h i (by omega)
theorem s_meet {B : Bas} {L : List (Nat → Nat)} {v : Nat → Nat} {klow khigh : Nat → Int64} {kslots kfor : Nat → Int32} (h : basOk B) (ht : tab B L klow khigh kslots kfor) (hv : stC B v) (sp : Int32) :
    (v ∈ L ∧ f_Search_meet (lN (eL v)) (lN (eH v)) (nI L.length) sp klow khigh kslots kfor = some (nI L.length, sp, klow, khigh, kslots, kfor)) ∨
    ((¬ v ∈ L) ∧ L.length < 6000 ∧ ∃ klow' khigh' kslots' kfor', f_Search_meet (lN (eL v)) (lN (eH v)) (nI L.length) sp klow khigh kslots kfor = some (nI (L ++ [v]).length, sp, klow', khigh', kslots', kfor') ∧ tab B (L ++ [v]) klow' khigh' kslots' kfor') ∨
    ((¬ v ∈ L) ∧ L.length = 6000 ∧ f_Search_meet (lN (eL v)) (lN (eH v)) (nI L.length) sp klow khigh kslots kfor = some (nI L.length, 1, klow, khigh, kslots, kfor)) := by
  obtain ⟨hl, hL, hcs, sl, sf, hk, hkf, ho⟩ := ht
  obtain ⟨s, hs, es, q⟩ := s_slotOf h hl hL hv hcs hk ho
  have ev : f_Search_meet (lN (eL v)) (lN (eH v)) (nI L.length) sp klow khigh kslots kfor = (if nI (sl s) = 0 then if nI L.length < 6000 then jgrd (nI L.length) 6000 (jgrd (nI L.length) 6000 (jgrd (nI L.length) 6000 (some (nI (L.length + 1), sp, vp_updL klow L.length (lN (eL v)), vp_updL khigh L.length (lN (eH v)), upd kslots s (nI (L.length + 1)), upd kfor L.length (nI s))))) else some (nI L.length, 1, klow, khigh, kslots, kfor) else some (nI L.length, sp, klow, khigh, kslots, kfor)) := by
    unfold f_Search_meet
    rw [ev_b _ es, ev_grdN _ hs (by decide), nI_clamp (show s < 2 ^ 31 by omega), hk s hs]
    simp only [ev_bnd, nI_1, ev_grdN _ hs (show 16384 < 2 ^ 31 by decide), nI_clamp (show L.length < 2 ^ 31 by omega)]
  rcases q with ⟨i, hi, e1, e2⟩ | ⟨nm, e2, ht⟩
  · refine Or.inl ⟨by rw [← e1]; exact List.getElem_mem hi, ?_⟩
    rw [ev, e2, if_neg (nI_ne0 (by omega) (by omega))]
  · by_cases c : L.length < 6000
    · refine Or.inr (Or.inl ⟨nm, c, vp_updL klow L.length (lN (eL v)), vp_updL khigh L.length (lN (eH v)), upd kslots s (nI (L.length + 1)), upd kfor L.length (nI s), ?_, ?_⟩)
      · rw [ev, e2, if_pos (show nI 0 = 0 from rfl), if_pos (show nI L.length < 6000 from nI_lt (b := 6000) c (by decide)), ev_grdN _ c (by decide), ev_grdN _ c (by decide), ev_grdN _ c (by decide), List.length_append, List.length_singleton]
      · refine ⟨by rw [List.length_append, List.length_singleton]; omega, ?_, cs_app hcs, updN sl s (L.length + 1), updN sf L.length s, ?_, ?_, sl_app ho hs e2 ht⟩
        · intro P hP
          rcases List.mem_append.mp hP with z | z
          · exact hL P z
          · rw [List.mem_singleton.mp z]; exact hv
        · intro x hx
          by_cases e : x = s
          · subst e; rw [pk_us, updN_s]
          · rw [pk_un e, updN_n e]; exact hk x hx
        · intro x hx
          rw [List.length_append, List.length_singleton] at hx
          by_cases e : x = L.length
          · subst e; rw [pk_us, updN_s]
          · rw [pk_un e, updN_n e]; exact hkf x (by omega)
    · have c6 : L.length = 6000 := by omega
      refine Or.inr (Or.inr ⟨nm, c6, ?_⟩)
      rw [ev, e2, if_pos (show nI 0 = 0 from rfl), if_neg (show ¬ nI L.length < 6000 by rw [c6]; decide)]
/-! The process: stands are met one after another. -/
noncomputable def meetL (L : List (Nat → Nat)) (v : Nat → Nat) : List (Nat → Nat) := @ite _ (v ∈ L) (Classical.propDecidable _) L (L ++ [v])
theorem meetL_in {L : List (Nat → Nat)} {v : Nat → Nat} (h : v ∈ L) : meetL L v = L := if_pos h
theorem meetL_out {L : List (Nat → Nat)} {v : Nat → Nat} (h : ¬ v ∈ L) : meetL L v = L ++ [v] := if_neg h
theorem meetL_pre (L : List (Nat → Nat)) (v : Nat → Nat) : ∃ l, meetL L v = L ++ l := by
  by_cases h : v ∈ L
  · exact ⟨[], by rw [meetL_in h, List.append_nil]⟩
  · exact ⟨[v], meetL_out h⟩
theorem foldL_pre : ∀ (vs L : List (Nat → Nat)), ∃ l, vs.foldl meetL L = L ++ l
  | [], L => ⟨[], by simp⟩
  | v :: vs, L => by
    obtain ⟨l1, e1⟩ := meetL_pre L v
    obtain ⟨l2, e2⟩ := foldL_pre vs (meetL L v)
    exact ⟨l1 ++ l2, by rw [List.foldl_cons, e2, e1, List.append_assoc]⟩
theorem meetL_mem {L : List (Nat → Nat)} {v x : Nat → Nat} : x ∈ meetL L v ↔ x ∈ L ∨ x = v := by
  by_cases h : v ∈ L
  · rw [meetL_in h]
    exact ⟨Or.inl, fun q => q.elim id fun e => by rw [e]; exact h⟩
  · rw [meetL_out h]; simp
theorem foldL_mem : ∀ {vs L : List (Nat → Nat)} {x : Nat → Nat}, x ∈ vs.foldl meetL L ↔ x ∈ L ∨ x ∈ vs
  | [], L, x => by simp
  | v :: vs, L, x => by
    rw [List.foldl_cons, foldL_mem, meetL_mem, List.mem_cons]
    constructor
    · rintro ((a | a) | a)
      · exact Or.inl a
      · exact Or.inr (Or.inl a)
      · exact Or.inr (Or.inr a)
    · rintro (a | a | a)
      · exact Or.inl (Or.inl a)
      · exact Or.inl (Or.inr a)
      · exact Or.inr a
theorem foldL_len (vs L : List (Nat → Nat)) : L.length ≤ (vs.foldl meetL L).length := by
  obtain ⟨l, e⟩ := foldL_pre vs L
  rw [e, List.length_append]
  omega
theorem meetL_nodup {L : List (Nat → Nat)} {v : Nat → Nat} (h : L.Nodup) : (meetL L v).Nodup := by
  by_cases m : v ∈ L
  · rw [meetL_in m]; exact h
  · rw [meetL_out m, List.nodup_append]
    refine ⟨h, by simp, ?_⟩
    intro a ha b hb e
    rw [List.mem_singleton] at hb
    rw [e, hb] at ha
    exact m ha
theorem foldL_nodup : ∀ {vs L : List (Nat → Nat)}, L.Nodup → (vs.foldl meetL L).Nodup
  | [], L, h => h
  | v :: vs, L, h => foldL_nodup (vs := vs) (meetL_nodup h)
/-- the list behind m stands -/
noncomputable def Lk (sc : (Nat → Nat) → List (Nat → Nat)) (v0 : Nat → Nat) : Nat → List (Nat → Nat)
  | 0 => [v0]
  | m + 1 => if h : m < (Lk sc v0 m).length then (sc (Lk sc v0 m)[m]).foldl meetL (Lk sc v0 m) else Lk sc v0 m
theorem Lk_go {sc : (Nat → Nat) → List (Nat → Nat)} {v0 : Nat → Nat} {m : Nat} (h : m < (Lk sc v0 m).length) : Lk sc v0 (m + 1) = (sc (Lk sc v0 m)[m]).foldl meetL (Lk sc v0 m) := by
  show (if h : m < (Lk sc v0 m).length then _ else _) = _
  rw [dif_pos h]
theorem Lk_stop {sc : (Nat → Nat) → List (Nat → Nat)} {v0 : Nat → Nat} {m : Nat} (h : ¬ m < (Lk sc v0 m).length) : Lk sc v0 (m + 1) = Lk sc v0 m := by
  show (if h : m < (Lk sc v0 m).length then _ else _) = _
  rw [dif_neg h]
theorem Lk_end {sc : (Nat → Nat) → List (Nat → Nat)} {v0 : Nat → Nat} {m : Nat} (h : (Lk sc v0 m).length ≤ m) : ∀ k, Lk sc v0 (m + k) = Lk sc v0 m
  | 0 => rfl
  | k + 1 => by
    have ih := Lk_end h k
    rw [← Nat.add_assoc, Lk_stop (by rw [ih]; omega), ih]
theorem Lk_pre1 {sc : (Nat → Nat) → List (Nat → Nat)} {v0 : Nat → Nat} (m : Nat) : ∃ l, Lk sc v0 (m + 1) = Lk sc v0 m ++ l := by
  by_cases h : m < (Lk sc v0 m).length
  · rw [Lk_go h]; exact foldL_pre _ _
  · rw [Lk_stop h]; exact ⟨[], by simp⟩
theorem Lk_pre {sc : (Nat → Nat) → List (Nat → Nat)} {v0 : Nat → Nat} (m : Nat) : ∀ k, ∃ l, Lk sc v0 (m + k) = Lk sc v0 m ++ l
  | 0 => ⟨[], by simp⟩
  | k + 1 => by
    obtain ⟨l, e⟩ := Lk_pre m k (sc := sc) (v0 := v0)
    obtain ⟨l2, e2⟩ := Lk_pre1 (m + k) (sc := sc) (v0 := v0)
    exact ⟨l ++ l2, by rw [← Nat.add_assoc, e2, e, List.append_assoc]⟩
theorem Lk_len {sc : (Nat → Nat) → List (Nat → Nat)} {v0 : Nat → Nat} {m k : Nat} (h : m ≤ k) : (Lk sc v0 m).length ≤ (Lk sc v0 k).length := by
  obtain ⟨j, rfl⟩ : ∃ j, k = m + j := ⟨k - m, by omega⟩
  obtain ⟨l, e⟩ := Lk_pre m j (sc := sc) (v0 := v0)
  rw [e, List.length_append]
  omega
theorem Lk_nodup {sc : (Nat → Nat) → List (Nat → Nat)} {v0 : Nat → Nat} : ∀ m, (Lk sc v0 m).Nodup
  | 0 => by simp [Lk]
  | m + 1 => by
    by_cases h : m < (Lk sc v0 m).length
    · rw [Lk_go h]; exact foldL_nodup (Lk_nodup m)
    · rw [Lk_stop h]; exact Lk_nodup m
