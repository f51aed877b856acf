/-! The class's isFreed and measure. -/
def freedA (B : Bas) (P : Nat → Nat) : Bool := (List.range (bn B)).all fun b => !(decide (bK B b = 5) && decide (P b ≠ bG B b))
def chG (B : Bas) (kg : Nat → Int32) : Prop := ∀ b, b < bn B → bK B b = 5 → kg b = nI (bG B b)
theorem s_isAway2 {b k p g : Nat} {kk kp kg : Nat → Int32} (hb : b < 12) (hk : kk b = nI k) (hp : kp b = nI p) (hg : k = 5 → kg b = nI g) (h6 : k < 6) (hp6 : p < 64) (hg6 : k = 5 → g < 64) : f_Chart_isAway (nI b) kk kp kg = some (bI (decide (k = 5) && decide (p ≠ g))) := by
  unfold f_Chart_isAway
  rw [ev_grdN _ hb (by decide), ev_grdN _ hb (by decide), ev_grdN _ hb (by decide), cl_nI hb, hk, hp]
  have c1 : (nI k = 5) = (k = 5) := nI_eqL (j := 5) (by omega) (by decide)
  simp only [c1]
  by_cases a : k = 5
  · have := hg6 a
    have c2 : (nI p = nI g) = (p = g) := nI_eqL (by omega) (by omega)
    rw [hg a]
    simp only [c2]
    by_cases c : p = g
    · simp [a, c, bI]
    · simp [a, c, bI]
  · simp [a, bI]
theorem all_from {p : Nat → Bool} {n b : Nat} (hb : b < n) : (List.range' b (n - b)).all p = (p b && (List.range' (b + 1) (n - (b + 1))).all p) := by
  obtain ⟨m, hm⟩ : ∃ m, n - b = m + 1 := ⟨n - b - 1, by omega⟩
  rw [hm, List.range'_succ, List.all_cons, show n - (b + 1) = m by omega]
theorem s_isFreed {B : Bas} {P : Nat → Nat} {kk kp kg : Nat → Int32} (h : basOk B) (hi : insA B P) (hk : ∀ b, b < bn B → kk b = nI (bK B b)) (hp : chP B P kp) (hg : chG B kg) : f_Chart_isFreed (nI (bn B)) kk kp kg = some (bI (freedA B P)) := by
  have n12 := h.2.2.2.2.1
  have loop : ∀ (r b n : Nat), b + r = bn B → r < n → f_Chart_isFreed_L2 (nI (bn B)) kk kp kg n (nI b) = some (if (List.range' b (bn B - b)).all (fun b => !(decide (bK B b = 5) && decide (P b ≠ bG B b))) then .inr () else .inl ()) := by
    intro r
    induction r with
    | zero =>
      intro b n h1 h2
      obtain ⟨n, rfl⟩ : ∃ z, n = z + 1 := ⟨n - 1, by omega⟩
      have e : b = bn B := by omega
      subst e
      rw [f_Chart_isFreed_L2, if_pos (nI_le (Nat.le_refl _) (by omega))]
      simp
    | succ r ih =>
      intro b n h1 h2
      obtain ⟨n, rfl⟩ : ∃ z, n = z + 1 := ⟨n - 1, by omega⟩
      have hb : b < bn B := by omega
      obtain ⟨a1, a2, -⟩ := basOk_wh h hb
      rw [f_Chart_isFreed_L2, if_neg (nI_ge hb (by omega)), ev_b _ (s_isAway2 a1 (hk b hb) (hp b hb) (hg b hb) a2 (ins_64 h hi hb) (h.2.2.2.2.2.2 b hb)), all_from hb]
      cases e : (decide (bK B b = 5) && decide (P b ≠ bG B b)) with
      | true => rfl
      | false =>
        rw [if_pos (show bI false = 0 by decide), ev_bnd, nI_1, ih (b + 1) n (by omega) (by omega), Bool.not_false, Bool.true_and]
  unfold f_Chart_isFreed
  have e := loop (bn B) 0 jN (by omega) (by show bn B < 2000000; omega)
  rw [Nat.sub_zero, ← List.range_eq_range', nI_0] at e
  rw [ev_b _ e]
  unfold freedA
  cases (List.range (bn B)).all (fun b => !(decide (bK B b = 5) && decide (P b ≠ bG B b))) <;> rfl
def frL (B : Bas) (L : List (Nat → Nat)) (u : Nat) : Bool := match L[u]? with | some P => freedA B P | none => false
theorem frL_at {B : Bas} {L : List (Nat → Nat)} {u : Nat} (hu : u < L.length) : frL B L u = freedA B L[u] := by
  unfold frL
  rw [List.getElem?_eq_getElem hu]
def edL (B : Bas) (L : List (Nat → Nat)) (most u a : Nat) : Prop := ∃ (hu : u < L.length) (ha : a < L.length), edg B most L[u] L[a]
def dR (N : Nat) (kd : Nat → Int32) (D : Nat → Option Nat) : Prop := ∀ u, u < N → kd u = oI (D u)
theorem dR_upd {N : Nat} {kd : Nat → Int32} {D : Nat → Option Nat} {u k : Nat} (h : dR N kd D) : dR N (upd kd u (nI k)) (updO D u k) := by
  intro v hv
  by_cases e : v = u
  · subst e; rw [pk_us, updO_s]; rfl
  · rw [pk_un e, updO_n e]; exact h v hv
theorem s_enq {u m : Nat} {x : Int32} {kd kq : Nat → Int32} (hu : u < 6000) (hm : m < 6000) : f_Search_enqueue (nI u) x (nI m) kd kq = some (nI (m + 1), upd kd u x, upd kq m (nI u)) := by
  unfold f_Search_enqueue
  rw [if_neg (show ¬ (6000 : Int32) ≤ nI m from nI_ge (b := 6000) hm (by decide)), ev_grdN _ hu (by decide), ev_grdN _ hm (by decide), ev_bnd, nI_clamp (by omega), nI_clamp (by omega)]
  rw [show (1 : Int32) = 1 from rfl, nI_1]
theorem filt_succ (p : Nat → Bool) (u : Nat) : (List.range (u + 1)).filter p = (List.range u).filter p ++ (if p u then [u] else []) := by
  rw [List.range_succ, List.filter_append]
  cases e : p u <;> simp [e]
theorem filt_len (p : Nat → Bool) (u : Nat) : ((List.range u).filter p).length ≤ u := by
  have := List.length_filter_le p (List.range u)
  simpa using this
theorem s_msL7 {B : Bas} {L : List (Nat → Nat)} {v1 : Int32} {klow khigh : Nat → Int64} {kslots kfor : Nat → Int32} {kk kg ka kw kh : Nat → Int32} {ks : Nat → Int64} (h : basOk B) (ht : tab B L klow khigh kslots kfor) (hc : chB B kk ka kw kh ks) (hg : chG B kg) :
    ∀ (r u n : Nat) (kt : Int64) (kp kd kq : Nat → Int32), u + r = L.length → r < n → (∀ v, v < u → kd v = oI (if frL B L v then some 0 else none)) → wrt kq ((List.range u).filter (frL B L)) →
      ∃ kt' kp' kd' kq', f_Search_measure_L7 v1 (nI L.length) (nI (bn B)) kk kg ks klow khigh n (nI u) (nI ((List.range u).filter (frL B L)).length) kt kp kd kq = some (nI ((List.range L.length).filter (frL B L)).length, kt', kp', kd', kq') ∧
        (∀ v, v < L.length → kd' v = oI (if frL B L v then some 0 else none)) ∧ wrt kq' ((List.range L.length).filter (frL B L)) := by
  obtain ⟨t1, t2, t3, t4⟩ := id ht
  intro r
  induction r with
  | zero =>
    intro u n kt kp kd kq h1 h2 h3 h4
    obtain ⟨n, rfl⟩ : ∃ z, n = z + 1 := ⟨n - 1, by omega⟩
    have e : u = L.length := by omega
    subst e
    exact ⟨kt, kp, kd, kq, by rw [f_Search_measure_L7, if_pos (nI_le (Nat.le_refl _) (by omega))], h3, h4⟩
  | succ r ih =>
    intro u n kt kp kd kq h1 h2 h3 h4
    obtain ⟨n, rfl⟩ : ∃ z, n = z + 1 := ⟨n - 1, by omega⟩
    have hu : u < L.length := by omega
    have hs := t2 _ (List.getElem_mem hu)
    obtain ⟨l1, l2⟩ := t3 u hu
    obtain ⟨kt1, kp1, e1, c1, c2⟩ := s_layOut h hs hc hu t1 l1 l2 kt kp
    have fr := s_isFreed h hs.1.1 (fun b hb => (hc b hb).1) c2 hg
    rw [← frL_at hu] at fr
    rw [f_Search_measure_L7, if_neg (nI_ge hu (by omega)), ev_b _ e1, un2_ap, ev_grdN _ (show u < 6000 by omega) (by decide), ev_b _ fr, nI_clamp (show u < 2 ^ 31 by omega)]
    cases ef : frL B L u with
    | false =>
      rw [if_pos (show bI false = 0 by decide), ev_bnd, nI_1]
      have fs := filt_succ (frL B L) u
      rw [ef, if_neg (by decide), List.append_nil] at fs
      rw [← fs]
      refine ih (u + 1) n kt1 kp1 _ kq (by omega) (by omega) (fun v hv => ?_) (by rw [fs]; exact h4)
      by_cases z : v = u
      · subst z; rw [pk_us, ef]; rfl
      · rw [pk_un z]; exact h3 v (by omega)
    | true =>
      have fl := filt_len (frL B L) u
      rw [if_neg (show ¬ bI true = 0 by decide), ev_b _ (s_enq (show u < 6000 by omega) (show ((List.range u).filter (frL B L)).length < 6000 by omega)), un3_ap, ev_bnd, nI_1]
      have fs := filt_succ (frL B L) u
      rw [ef, if_pos rfl] at fs
      have fl2 : ((List.range u).filter (frL B L)).length + 1 = ((List.range (u + 1)).filter (frL B L)).length := by rw [fs]; simp
      rw [fl2]
      refine ih (u + 1) n kt1 kp1 _ _ (by omega) (by omega) (fun v hv => ?_) (by rw [fs]; exact wrt_app h4)
      by_cases z : v = u
      · subst z; rw [pk_us, ef]; rfl
      · rw [pk_un z, pk_un z]; exact h3 v (by omega)
theorem wrt_at {km : Nat → Int32} {l : List Nat} (h : wrt km l) {i : Nat} (hi : i < l.length) : km i = nI l[i] := h i hi
theorem s_msL91 {B : Bas} {L : List (Nat → Nat)} {most i : Nat} {v1 v2 : Int32} {klow khigh : Nat → Int64} {kslots kfor km : Nat → Int32} {at0 : Nat} (h : basOk B) (ht : tab B L klow khigh kslots kfor) (hnd : L.Nodup) (ha : at0 < L.length) (hw : wrt km (mvs B L[at0] most true)) (hm : (mvs B L[at0] most true).length ≤ 336) :
    ∀ (r j n : Nat) (Q : List Nat) (D : Nat → Option Nat) (kd kq : Nat → Int32), j + r = (mvs B L[at0] most true).length → r < n → bfsI L.length (edL B L most) (frL B L) Q D i → (hi : i < Q.length) → Q[i] = at0 → dR L.length kd D → wrt kq Q → Q.length ≤ L.length →
      (∀ j', (hj : j' < (mvs B L[at0] most true).length) → j' < j → ∀ u, (hu : u < L.length) → L[u] = tgt L[at0] (mvs B L[at0] most true)[j'] → D u ≠ none) →
      ∃ Q' D' kd' kq', f_Search_measure_L91 v1 v2 (nI at0) (nI (mvs B L[at0] most true).length) klow khigh kslots km n (nI j) (nI Q.length) kd kq = some (nI Q'.length, kd', kq') ∧
        bfsI L.length (edL B L most) (frL B L) Q' D' i ∧ (∃ l, Q' = Q ++ l) ∧ dR L.length kd' D' ∧ wrt kq' Q' ∧ Q'.length ≤ L.length ∧
        (∀ j', (hj : j' < (mvs B L[at0] most true).length) → ∀ u, (hu : u < L.length) → L[u] = tgt L[at0] (mvs B L[at0] most true)[j'] → D' u ≠ none) := by
  obtain ⟨t1, t2, t3, t4⟩ := id ht
  have hs := t2 _ (List.getElem_mem ha)
  intro r
  induction r with
  | zero =>
    intro j n Q D kd kq h1 h2 h3 hi hq h4 h5 h6 h7
    obtain ⟨n, rfl⟩ : ∃ z, n = z + 1 := ⟨n - 1, by omega⟩
    refine ⟨Q, D, kd, kq, by rw [f_Search_measure_L91, if_pos (nI_le (by omega) (by omega))], h3, ⟨[], by simp⟩, h4, h5, h6, fun j' hj => h7 j' hj (by omega)⟩
  | succ r ih =>
    intro j n Q D kd kq h1 h2 h3 hi hq h4 h5 h6 h7
    obtain ⟨n, rfl⟩ : ∃ z, n = z + 1 := ⟨n - 1, by omega⟩
    have hj : j < (mvs B L[at0] most true).length := by omega
    have hc : (mvs B L[at0] most true)[j] ∈ mvs B L[at0] most true := List.getElem_mem hj
    obtain ⟨o, eo, io⟩ := s_after h ht ha rfl hc
    have dsm : ∀ u, u < L.length → ∀ k, D u = some k → k < 2 ^ 31 := by
      intro u hu k hk
      have mu : u ∈ Q := (h3.2.1 u hu).mpr (by rw [hk]; intro z; cases z)
      obtain ⟨t, ht', et⟩ := List.getElem_of_mem mu
      have := h3.2.2.2.2.1 t ht'
      rw [et, dvO_some hk] at this
      omega
    rw [f_Search_measure_L91, if_neg (nI_ge hj (by omega)), ev_grdN _ (show j < 336 by omega) (by decide), nI_clamp (show j < 2 ^ 31 by omega), hw j hj, ev_b _ eo]
    cases o with
    | none =>
      rw [if_pos (show oI none < 0 by decide), ev_bnd, nI_1]
      refine ih (j + 1) n Q D kd kq (by omega) (by omega) h3 hi hq h4 h5 h6 (fun j' hj' hlt u hu e => ?_)
      by_cases z : j' = j
      · subst z
        exact absurd (by rw [← e]; exact List.getElem_mem hu) (io.2 rfl)
      · exact h7 j' hj' (by omega) u hu e
    | some u0 =>
      obtain ⟨hu0, eu0⟩ := io.1 u0 rfl
      rw [show oI (some u0) = nI u0 from rfl, if_neg (nI_pos (by omega)), ev_grdN _ (show u0 < 6000 by omega) (by decide), nI_clamp (show u0 < 2 ^ 31 by omega), h4 u0 hu0]
      have same : ∀ u, (hu : u < L.length) → L[u] = tgt L[at0] (mvs B L[at0] most true)[j] → u = u0 := fun u hu e => nd_inj hnd hu hu0 (by rw [e, eu0])
      cases ed : D u0 with
      | some k =>
        rw [if_pos (show 0 ≤ oI (some k) from nI_pos' (dsm u0 hu0 k ed)), ev_bnd, nI_1]
        refine ih (j + 1) n Q D kd kq (by omega) (by omega) h3 hi hq h4 h5 h6 (fun j' hj' hlt u hu e => ?_)
        by_cases z : j' = j
        · subst z
          rw [same u hu e, ed]; intro y; cases y
        · exact h7 j' hj' (by omega) u hu e
      | none =>
        have he : edL B L most u0 Q[i] := by
          subst hq
          refine ⟨hu0, ha, ?_⟩
          have su := t2 _ (List.getElem_mem hu0)
          rw [edg_back h su.1 hs.1]
          exact ⟨_, hc, eu0.symm⟩
        obtain ⟨b1, b2⟩ := bfs_enq h3 hi hu0 ed he
        rw [List.length_append, List.length_singleton] at b2
        have dq : D Q[i] = some (dvO D Q[i]) := some_dv ((h3.2.1 _ (h3.1.2 _ (List.getElem_mem hi))).mp (List.getElem_mem hi))
        have kq0 : kd at0 = nI (dvO D Q[i]) := by
          rw [h4 at0 ha]
          subst hq
          rw [dq]
          exact congrArg nI (dvO_some dq)
        rw [if_neg (show ¬ 0 ≤ oI none by decide), ev_grdN _ (show at0 < 6000 by omega) (by decide), nI_clamp (show at0 < 2 ^ 31 by omega), kq0, nI_1, ev_b _ (s_enq (show u0 < 6000 by omega) (show Q.length < 6000 by omega)), un3_ap, ev_bnd, nI_1]
        obtain ⟨Q', D', kd', kq', e, x1, ⟨l, x2⟩, x3, x4, x5, x6⟩ := ih (j + 1) n (Q ++ [u0]) (updO D u0 (dvO D Q[i] + 1)) (upd kd u0 (nI (dvO D Q[i] + 1))) (upd kq Q.length (nI u0)) (by omega) (by omega) b1 (by rw [List.length_append]; omega) (by rw [List.getElem_append_left hi]; exact hq) (dR_upd h4) (wrt_app h5) (by rw [List.length_append, List.length_singleton]; exact b2) (fun j' hj' hlt u hu e => by
          by_cases z : u = u0
          · rw [z, updO_s]; intro y; cases y
          · rw [updO_n z]
            by_cases z2 : j' = j
            · subst z2; exact absurd (same u hu e) z
            · exact h7 j' hj' (by omega) u hu e)
        rw [List.length_append, List.length_singleton] at e
        exact ⟨Q', D', kd', kq', e, x1, ⟨[u0] ++ l, by rw [x2, List.append_assoc]⟩, x3, x4, x5, x6⟩
