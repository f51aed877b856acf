/-! How many plans: counting by pushing, without the machine. -/
def cntS (B : Bas) (but : Option Nat) : Nat → (Nat → Nat) → Nat
  | 0, v => if freedA B v then 1 else 0
  | k + 1, v => ((mvs B v 7 false).map fun c => if some (c / 32) = but then 0 else cntS B but k (tgt v c)).sum
theorem sum_zero {l : List Nat} {f : Nat → Nat} (h : ∀ c, c ∈ l → f c = 0) : (l.map f).sum = 0 := by
  induction l with
  | nil => rfl
  | cons c l ih =>
    rw [List.map_cons, List.sum_cons, h c (List.mem_cons_self), ih (fun c' hc' => h c' (List.mem_cons_of_mem _ hc'))]
theorem cnt_far {B : Bas} {but : Option Nat} : ∀ {k : Nat} {v : Nat → Nat}, ¬ canD B 7 k v → cntS B but k v = 0
  | 0, v, h => by
    unfold cntS
    rw [if_neg]
    exact h
  | k + 1, v, h => by
    unfold cntS
    refine sum_zero fun c hc => ?_
    split
    · rfl
    · exact cnt_far (fun z => h ⟨c, hc, z⟩)
def sumQ (W φ : Nat → Nat) (l : List Nat) : Nat := (l.map fun u => W u * φ u).sum
theorem sumQ_app {W φ : Nat → Nat} {l m : List Nat} : sumQ W φ (l ++ m) = sumQ W φ l + sumQ W φ m := by
  unfold sumQ
  rw [List.map_append, List.sum_append]
theorem sumQ_one {W φ : Nat → Nat} {u : Nat} : sumQ W φ [u] = W u * φ u := by simp [sumQ]
theorem sumQ_cons {W φ : Nat → Nat} {u : Nat} {l : List Nat} : sumQ W φ (u :: l) = W u * φ u + sumQ W φ l := by simp [sumQ]
theorem sumQ_out {W φ : Nat → Nat} {a x : Nat} : ∀ {l : List Nat}, ¬ a ∈ l → sumQ (updN W a x) φ l = sumQ W φ l
  | [], _ => rfl
  | u :: l, h => by
    rw [sumQ_cons, sumQ_cons, sumQ_out (fun z => h (List.mem_cons_of_mem _ z)), updN_n (fun z => h (by rw [← z]; exact List.mem_cons_self))]
theorem sumQ_in {W φ : Nat → Nat} {a w : Nat} : ∀ {l : List Nat}, l.Nodup → a ∈ l → sumQ (updN W a (W a + w)) φ l = sumQ W φ l + w * φ a
  | [], _, h => by cases h
  | u :: l, hn, h => by
    rw [List.nodup_cons] at hn
    rw [sumQ_cons, sumQ_cons]
    by_cases e : a = u
    · subst e
      rw [updN_s, sumQ_out hn.1, Nat.add_mul]
      omega
    · have m : a ∈ l := by
        rcases List.mem_cons.mp h with z | z
        · exact absurd z e
        · exact z
      rw [updN_n (fun z => e z.symm), sumQ_in hn.2 m]
      omega
/-- the queue Q and the ways W; i are done -/
def wyI (N : Nat) (D : Nat → Option Nat) (Q : List Nat) (W : Nat → Nat) (i : Nat) : Prop :=
  Q.Nodup ∧ (∀ u, u ∈ Q → u < N ∧ D u ≠ none) ∧ (∀ u, u < N → (u ∈ Q ↔ W u ≠ 0)) ∧ (∀ j j', (hj : j < Q.length) → (hj' : j' < Q.length) → j ≤ j' → dvO D Q[j'] ≤ dvO D Q[j]) ∧
  ((hi : i < Q.length) → ∀ j, (hj : j < Q.length) → dvO D Q[i] ≤ dvO D Q[j] + 1)
theorem wy_add {N : Nat} {D : Nat → Option Nat} {Q : List Nat} {W φ : Nat → Nat} {i k a w : Nat} (h : wyI N D Q W i) (hi : i < Q.length) (hk : dvO D Q[i] = k + 1) (ha : a < N) (hd : D a = some k) (hw : w ≠ 0) :
    ∃ Q', Q' = (if W a = 0 then Q ++ [a] else Q) ∧ wyI N D Q' (updN W a (W a + w)) i ∧ (∃ l, Q' = Q ++ l) ∧ sumQ (updN W a (W a + w)) φ (Q'.drop (i + 1)) = sumQ W φ (Q.drop (i + 1)) + w * φ a ∧ a ≠ Q[i] := by
  obtain ⟨q1, q2, q3, q4, q5⟩ := h
  have da : dvO D a = k := dvO_some hd
  have nt : ∀ j, (hj : j < Q.length) → j ≤ i → Q[j] ≠ a := by
    intro j hj hji z
    have := q4 j i hj hi hji
    rw [z, da, hk] at this
    omega
  have nai : a ≠ Q[i] := fun z => nt i hi (Nat.le_refl _) z.symm
  by_cases z : W a = 0
  · have nm : ¬ a ∈ Q := fun y => (q3 a ha).mp y z
    have len : (Q ++ [a]).length = Q.length + 1 := by simp
    have gl : ∀ j, (hj : j < Q.length) → (Q ++ [a])[j]'(by rw [len]; omega) = Q[j] := fun j hj => List.getElem_append_left hj
    have gr : (Q ++ [a])[Q.length]'(by rw [len]; omega) = a := by simp
    refine ⟨Q ++ [a], by rw [if_pos z], ⟨?_, ?_, ?_, ?_, ?_⟩, ⟨[a], rfl⟩, ?_, nai⟩
    · rw [List.nodup_append]
      refine ⟨q1, by simp, ?_⟩
      intro x hx y hy e
      rw [List.mem_singleton] at hy
      rw [e, hy] at hx
      exact nm hx
    · intro u hu
      rcases List.mem_append.mp hu with y | y
      · exact q2 u y
      · rw [List.mem_singleton.mp y]
        exact ⟨ha, by rw [hd]; intro x; cases x⟩
    · intro u hu
      by_cases e : u = a
      · subst e
        rw [updN_s]
        exact ⟨fun _ => by omega, fun _ => by simp⟩
      · rw [updN_n e, ← q3 u hu, List.mem_append, List.mem_singleton]
        exact ⟨fun y => y.elim id (fun x => absurd x e), Or.inl⟩
    · intro j j' hj hj' hle
      rw [len] at hj hj'
      by_cases e' : j' = Q.length
      · subst e'
        rw [gr, da]
        by_cases e : j = Q.length
        · subst e; rw [gr, da]; exact Nat.le_refl _
        · rw [gl j (by omega)]
          have := q5 hi j (by omega)
          omega
      · rw [gl j (by omega), gl j' (by omega)]
        exact q4 j j' (by omega) (by omega) hle
    · intro hi' j hj
      rw [len] at hj
      rw [gl i hi]
      by_cases e : j = Q.length
      · subst e; rw [gr, da, hk]; exact Nat.le_refl _
      · rw [gl j (by omega)]
        exact q5 hi j (by omega)
    · rw [List.drop_append_of_le_length (by omega), sumQ_app, sumQ_one, updN_s, z, Nat.zero_add, sumQ_out (fun y => nm (List.mem_of_mem_drop y))]
  · have ma : a ∈ Q := (q3 a ha).mpr z
    have md : a ∈ Q.drop (i + 1) := by
      obtain ⟨j, hj, ej⟩ := List.getElem_of_mem ma
      have : i < j := by
        apply Nat.lt_of_not_le
        intro y
        exact nt j hj y ej
      rw [List.mem_drop_iff_getElem]
      refine ⟨j - (i + 1), by omega, ?_⟩
      have : i + 1 + (j - (i + 1)) = j := by omega
      simp only [this]
      exact ej
    refine ⟨Q, by rw [if_neg z], ⟨q1, q2, ?_, q4, q5⟩, ⟨[], by simp⟩, ?_, nai⟩
    · intro u hu
      by_cases e : u = a
      · subst e
        rw [updN_s]
        exact ⟨fun _ => by omega, fun _ => ma⟩
      · rw [updN_n e]; exact q3 u hu
    · exact sumQ_in (q1.sublist (List.drop_sublist _ _)) md
theorem wy_next {N : Nat} {D : Nat → Option Nat} {Q : List Nat} {W : Nat → Nat} {i : Nat} (h : wyI N D Q W i) (hi : i < Q.length) : wyI N D Q W (i + 1) := by
  obtain ⟨q1, q2, q3, q4, q5⟩ := h
  refine ⟨q1, q2, q3, q4, ?_⟩
  intro hi' j hj
  have h1 := q5 hi j hj
  have h2 := q4 i (i + 1) hi hi' (by omega)
  omega
/-! Sums that are cut at 2^62. -/
def capM (x : Nat) : Nat := min 4611686018427387904 x
theorem capM_add (x y : Nat) : capM (capM x + capM y) = capM (x + y) := by unfold capM; omega
theorem capM_le (x : Nat) : capM x ≤ 4611686018427387904 := by unfold capM; omega
theorem cmpL {x y : Int64} : (lg_cmp x y < 0) = (x < y) := by
  unfold lg_cmp
  by_cases h : x > y
  · rw [if_pos h]
    refine propext ⟨fun e => absurd e (by decide), fun e => ?_⟩
    exact absurd (Int64.lt_trans h e) (fun q => Int64.lt_irrefl q)
  · rw [if_neg h]
    by_cases h2 : x = y
    · subst h2
      rw [if_pos rfl]
      refine propext ⟨fun e => absurd e (by decide), fun e => ?_⟩
      exact absurd e (fun q => Int64.lt_irrefl q)
    · rw [if_neg h2]
      refine propext ⟨fun _ => ?_, fun _ => by decide⟩
      rw [Int64.lt_iff_toInt_lt]
      have a1 : ¬ y.toInt < x.toInt := fun z => h (Int64.lt_iff_toInt_lt.mpr z)
      have a2 : x.toInt ≠ y.toInt := fun z => h2 (Int64.toInt_inj.mp z)
      omega
theorem s_capped (x y : Nat) : f_Search_capped (lN (capM x)) (lN (capM y)) = some (lN (capM (x + y))) := by
  have hx := capM_le x
  have hy := capM_le y
  have e := capM_add x y
  unfold f_Search_capped
  simp only [cmpL]
  have s : (4611686018427387904 : Int64) - lN (capM y) = lN (4611686018427387904 - capM y) := lN_sub (a := 4611686018427387904) hy
  rw [s]
  simp only [pk_lLT (show capM x < 2 ^ 63 by omega) (show 4611686018427387904 - capM y < 2 ^ 63 by omega)]
  by_cases c : capM x < 4611686018427387904 - capM y
  · rw [if_pos c, lN_add, ← e]
    refine congrArg some (congrArg lN ?_)
    show capM x + capM y = min 4611686018427387904 (capM x + capM y)
    omega
  · rw [if_neg c, ← e]
    refine congrArg some ?_
    have : capM (capM x + capM y) = 4611686018427387904 := by
      show min 4611686018427387904 (capM x + capM y) = _
      omega
    rw [this]; rfl
theorem capM_0 {x : Nat} : (lN (capM x) = 0) = (x = 0) := by
  have := capM_le x
  rw [show (0 : Int64) = lN 0 from rfl, propext (pk_lEQ (show capM x < 2 ^ 63 by omega) (show 0 < 2 ^ 63 by omega))]
  unfold capM
  exact propext ⟨fun z => by omega, fun z => by omega⟩
def wR (N : Nat) (kw : Nat → Int64) (W : Nat → Nat) : Prop := ∀ u, u < N → kw u = lN (capM (W u))
theorem wR_upd {N : Nat} {kw : Nat → Int64} {W : Nat → Nat} {a x : Nat} (h : wR N kw W) : wR N (vp_updL kw a (lN (capM x))) (updN W a x) := by
  intro u hu
  by_cases e : u = a
  · subst e; rw [pk_uLs, updN_s]
  · rw [pk_uLn e, updN_n e]; exact h u hu
theorem s_addWays {N a w : Nat} {Q : List Nat} {W : Nat → Nat} {kq : Nat → Int32} {kw : Nat → Int64} (hN : N ≤ 6000) (ha : a < N) (hQ : W a = 0 → Q.length < 6000) (hq : wrt kq Q) (hw : wR N kw W) :
    ∃ kq' kw', f_Search_addWays (nI a) (lN (capM w)) (nI Q.length) kq kw = some (nI (if W a = 0 then Q ++ [a] else Q).length, kq', kw') ∧ wrt kq' (if W a = 0 then Q ++ [a] else Q) ∧ wR N kw' (updN W a (W a + w)) := by
  have J : ∀ (x : Int32) (k : Nat → Int32), f_Search_addWays_J41 (nI a) (lN (capM w)) x k kw = some (x, k, vp_updL kw a (lN (capM (W a + w)))) := by
    intro x k
    unfold f_Search_addWays_J41
    rw [ev_grdN _ (show a < 6000 by omega) (by decide), nI_clamp (by omega), hw a ha, ev_b _ (s_capped _ _), ev_grdN _ (show a < 6000 by omega) (by decide)]
  unfold f_Search_addWays
  rw [ev_grdN _ (show a < 6000 by omega) (by decide), nI_clamp (by omega), hw a ha]
  simp only [cmpE, capM_0, J]
  by_cases z : W a = 0
  · have l6 := hQ z
    refine ⟨upd kq Q.length (nI a), vp_updL kw a (lN (capM (W a + w))), ?_, ?_, wR_upd hw⟩
    · rw [if_pos z, if_pos z, if_neg (show ¬ (6000 : Int32) ≤ nI Q.length from nI_ge (b := 6000) l6 (by decide)), ev_grdN _ l6 (by decide), ev_bnd, nI_1, nI_clamp (by omega), List.length_append, List.length_singleton]
    · rw [if_pos z]; exact wrt_app hq
  · refine ⟨kq, vp_updL kw a (lN (capM (W a + w))), ?_, ?_, wR_upd hw⟩
    · rw [if_neg z, if_neg z]
    · rw [if_neg z]; exact hq
