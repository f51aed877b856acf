/-! handOn and plansWithout of the class. -/
def phi (B : Bas) (but : Option Nat) (L : List (Nat → Nat)) (D : Nat → Option Nat) (u : Nat) : Nat := match L[u]? with | some P => cntS B but (dvO D u) P | none => 0
theorem phi_at {B : Bas} {but : Option Nat} {L : List (Nat → Nat)} {D : Nat → Option Nat} {u : Nat} (hu : u < L.length) : phi B but L D u = cntS B but (dvO D u) L[u] := by
  unfold phi
  rw [List.getElem?_eq_getElem hu]
theorem wy_room {N : Nat} {D : Nat → Option Nat} {Q : List Nat} {W : Nat → Nat} {i a : Nat} (h : wyI N D Q W i) (ha : a < N) (hz : W a = 0) : Q.length < N := by
  obtain ⟨q1, q2, q3, q4, q5⟩ := h
  have nm : ¬ a ∈ Q := fun y => (q3 a ha).mp y hz
  have := nd_len (l := Q ++ [a]) (N := N) (by
    rw [List.nodup_append]
    refine ⟨q1, by simp, ?_⟩
    intro x hx y hy e
    rw [List.mem_singleton] at hy
    rw [e, hy] at hx
    exact nm hx) (by
    intro u hu
    rcases List.mem_append.mp hu with y | y
    · exact (q2 u y).1
    · rw [List.mem_singleton.mp y]; exact ha)
  rw [List.length_append, List.length_singleton] at this
  omega
theorem s_hoL12 {B : Bas} {L : List (Nat → Nat)} {but : Option Nat} {u k i : Nat} {D : Nat → Option Nat} {klow khigh : Nat → Int64} {kslots kfor kd km : Nat → Int32} (h : basOk B) (ht : tab B L klow khigh kslots kfor) (hcl : clsd B 7 L)
    (hD : ∀ u, (hu : u < L.length) → ∀ k, D u = some k ↔ isD B 7 L[u] k) (hd : dR L.length kd D) (hsm : ∀ u k, u < L.length → D u = some k → k < L.length) (hbut : ∀ b, but = some b → b < 12) (hu : u < L.length) (hk : D u = some (k + 1)) (hw : wrt km (mvs B L[u] 7 false)) (hm : (mvs B L[u] 7 false).length ≤ 336) :
    ∀ (r j n : Nat) (Q : List Nat) (W : Nat → Nat) (kq : Nat → Int32) (kw : Nat → Int64), j + r = (mvs B L[u] 7 false).length → r < n → wyI L.length D Q W i → (hi : i < Q.length) → Q[i] = u → wrt kq Q → wR L.length kw W →
      ∃ Q' W' kq' kw', f_Search_handOn_L12 (nI u) (oI but) (nI (mvs B L[u] 7 false).length) klow khigh kslots km kd n (nI j) (nI Q.length) kq kw = some (nI Q'.length, kq', kw') ∧
        wyI L.length D Q' W' i ∧ (∃ l, Q' = Q ++ l) ∧ wrt kq' Q' ∧ wR L.length kw' W' ∧
        sumQ W' (phi B but L D) (Q'.drop (i + 1)) = sumQ W (phi B but L D) (Q.drop (i + 1)) + W u * (((mvs B L[u] 7 false).drop j).map fun c => if some (c / 32) = but then 0 else cntS B but k (tgt L[u] c)).sum := by
  have t1 := ht.1
  have isu := (hD u hu (k + 1)).mp hk
  have k31 : k + 1 < 2 ^ 31 := by have := hsm u (k + 1) hu hk; omega
  intro r
  induction r with
  | zero =>
    intro j n Q W kq kw h1 h2 h3 hi hq h4 h5
    obtain ⟨n, rfl⟩ : ∃ z, n = z + 1 := ⟨n - 1, by omega⟩
    refine ⟨Q, W, kq, kw, by rw [f_Search_handOn_L12, if_pos (nI_le (by omega) (by omega))], h3, ⟨[], by simp⟩, h4, h5, ?_⟩
    rw [List.drop_of_length_le (show (mvs B L[u] 7 false).length ≤ j by omega)]
    simp
  | succ r ih =>
    intro j n Q W kq kw h1 h2 h3 hi hq h4 h5
    obtain ⟨n, rfl⟩ : ∃ z, n = z + 1 := ⟨n - 1, by omega⟩
    have hj : j < (mvs B L[u] 7 false).length := by omega
    have hc : (mvs B L[u] 7 false)[j] ∈ mvs B L[u] 7 false := List.getElem_mem hj
    have c4 := mvs_400 h hc
    obtain ⟨o, eo, io⟩ := s_after h ht hu rfl hc
    have min' := hcl _ (List.getElem_mem hu) _ hc
    cases o with
    | none => exact absurd min' (io.2 rfl)
    | some a =>
      obtain ⟨ha, ea⟩ := io.1 a rfl
      rw [f_Search_handOn_L12, if_neg (nI_ge hj (by omega)), ev_grdN _ (show j < 336 by omega) (by decide), nI_clamp (show j < 2 ^ 31 by omega), hw j hj, ev_b _ eo, show oI (some a) = nI a from rfl, if_neg (nI_pos (by omega)), ev_grdN _ (show j < 336 by omega) (by decide), ev_b _ (s_bargeOf _ c4)]
      rw [List.drop_eq_getElem_cons hj, List.map_cons, List.sum_cons]
      have skip : (if some ((mvs B L[u] 7 false)[j] / 32) = but then 0 else cntS B but k (tgt L[u] (mvs B L[u] 7 false)[j])) = 0 →
          ∃ Q' W' kq' kw', f_Search_handOn_L12 (nI u) (oI but) (nI (mvs B L[u] 7 false).length) klow khigh kslots km kd n (nI j + 1) (nI Q.length) kq kw = some (nI Q'.length, kq', kw') ∧
          wyI L.length D Q' W' i ∧ (∃ l, Q' = Q ++ l) ∧ wrt kq' Q' ∧ wR L.length kw' W' ∧
          sumQ W' (phi B but L D) (Q'.drop (i + 1)) = sumQ W (phi B but L D) (Q.drop (i + 1)) + W u * ((if some ((mvs B L[u] 7 false)[j] / 32) = but then 0 else cntS B but k (tgt L[u] (mvs B L[u] 7 false)[j])) + (((mvs B L[u] 7 false).drop (j + 1)).map fun c => if some (c / 32) = but then 0 else cntS B but k (tgt L[u] c)).sum) := by
        intro z
        rw [z, Nat.zero_add, nI_1]
        exact ih (j + 1) n Q W kq kw (by omega) (by omega) h3 hi hq h4 h5
      have cb : (nI ((mvs B L[u] 7 false)[j] / 32) = oI but) = (some ((mvs B L[u] 7 false)[j] / 32) = but) := by
        have q := oI_eq (o := but) (b := (mvs B L[u] 7 false)[j] / 32) (by omega) (fun c hc => by have := hbut c hc; omega)
        refine propext ⟨fun z => (q.mp z.symm).symm, fun z => (q.mpr z.symm).symm⟩
      by_cases e1 : some ((mvs B L[u] 7 false)[j] / 32) = but
      · rw [if_pos (cb.mpr e1), ev_bnd]
        exact skip (by rw [if_pos e1])
      · have da : (oI (D a) = nI (k + 1) - 1) = (D a = some k) := by
          rw [nI_pred, oI_eq (by omega) (fun c hc => by have := hsm a c ha hc; omega)]
        rw [if_neg (fun z => e1 (cb.mp z)), ev_grdN _ (show a < 6000 by omega) (by decide), ev_grdN _ (show u < 6000 by omega) (by decide), nI_clamp (show a < 2 ^ 31 by omega), nI_clamp (show u < 2 ^ 31 by omega), hd a ha, hd u hu, hk, show oI (some (k + 1)) = nI (k + 1) from rfl]
        simp only [da]
        by_cases e2 : D a = some k
        · have wu : W u ≠ 0 := (h3.2.2.1 u hu).mp (by rw [← hq]; exact List.getElem_mem hi)
          have dq : dvO D Q[i] = k + 1 := by rw [hq]; exact dvO_some hk
          obtain ⟨Q1, eQ1, w1, ⟨l1, x1⟩, s1, n1⟩ := wy_add (φ := phi B but L D) h3 hi dq ha e2 wu
          obtain ⟨kq1, kw1, e3, p1, p2⟩ := s_addWays (w := W u) t1 ha (fun z => by have := wy_room h3 ha z; omega) h4 h5
          rw [← eQ1] at e3 p1
          rw [if_pos e2, ev_grdN _ (show u < 6000 by omega) (by decide), h5 u hu, ev_b _ e3, un3_ap, ev_bnd, nI_1]
          have hi1 : i < Q1.length := by rw [x1, List.length_append]; omega
          have q1i : Q1[i] = u := by simp only [x1]; rw [List.getElem_append_left hi]; exact hq
          obtain ⟨Q2, W2, kq2, kw2, f1, f2, ⟨l2, f3⟩, f4, f5, f6⟩ := ih (j + 1) n Q1 (updN W a (W a + W u)) kq1 kw1 (by omega) (by omega) w1 hi1 q1i p1 p2
          refine ⟨Q2, W2, kq2, kw2, f1, f2, ⟨l1 ++ l2, by rw [f3, x1, List.append_assoc]⟩, f4, f5, ?_⟩
          rw [f6, s1, if_neg e1, phi_at ha, dvO_some e2, ea, updN_n (show u ≠ a by rw [← hq]; exact n1.symm), Nat.mul_add]
          omega
        · rw [if_neg e2, ev_bnd]
          refine skip ?_
          rw [if_neg e1]
          refine cnt_far (fun z => e2 ?_)
          rw [← ea] at z
          obtain ⟨m, m1, m2⟩ := isD_ex z
          have : m = k := by
            by_cases y : m < k
            · exact absurd ⟨_, hc, by rw [← ea]; exact m2.1⟩ (isu.2 (m + 1) (by omega))
            · omega
          subst this
          exact (hD a ha m).mpr m2
theorem s_pwL39 {B : Bas} {L : List (Nat → Nat)} {but : Option Nat} {D : Nat → Option Nat} {klow khigh : Nat → Int64} {kwl : Int64} {kslots kfor kk ka kwd kh kd : Nat → Int32} {ks : Nat → Int64} (h : basOk B) (ht : tab B L klow khigh kslots kfor) (hc : chB B kk ka kwd kh ks) (hwl : chW B kwl) (hcl : clsd B 7 L)
    (hD : ∀ u, (hu : u < L.length) → ∀ k, D u = some k ↔ isD B 7 L[u] k) (hd : dR L.length kd D) (hsm : ∀ u k, u < L.length → D u = some k → k < L.length) (hbut : ∀ b, but = some b → b < 12) :
    ∀ (r i n : Nat) (Q : List Nat) (W : Nat → Nat) (pl tot : Nat) (kt : Int64) (kp km kq : Nat → Int32) (kw : Nat → Int64), i + r = 6000 → r < n → wyI L.length D Q W i → i ≤ Q.length → wrt kq Q → wR L.length kw W → sumQ W (phi B but L D) (Q.drop i) + pl = tot →
      ∃ qd kt' kp' km' kq' kw', f_Search_plansWithout_L39 (oI but) (nI L.length) (nI (bw B)) (nI (bh B)) (nI (bn B)) kwl kk ka kwd kh ks klow khigh kslots kd n (lN (capM pl)) (nI i) (nI Q.length) kt kp km kq kw = some (lN (capM tot), qd, kt', kp', km', kq', kw') := by
  obtain ⟨t1, t2, t3, t4⟩ := id ht
  intro r
  have fin : ∀ (i n : Nat) (Q : List Nat) (W : Nat → Nat) (pl tot : Nat) (kt : Int64) (kp km kq : Nat → Int32) (kw : Nat → Int64), i = Q.length → i ≤ 6000 → sumQ W (phi B but L D) (Q.drop i) + pl = tot →
      ∃ qd kt' kp' km' kq' kw', f_Search_plansWithout_L39 (oI but) (nI L.length) (nI (bw B)) (nI (bh B)) (nI (bn B)) kwl kk ka kwd kh ks klow khigh kslots kd (n + 1) (lN (capM pl)) (nI i) (nI Q.length) kt kp km kq kw = some (lN (capM tot), qd, kt', kp', km', kq', kw') := by
    intro i n Q W pl tot kt kp km kq kw e hle hs
    rw [List.drop_of_length_le (by omega), show sumQ W (phi B but L D) [] = 0 from rfl, Nat.zero_add] at hs
    refine ⟨nI Q.length, kt, kp, km, kq, kw, ?_⟩
    rw [f_Search_plansWithout_L39, if_pos (nI_le (by omega) (by omega)), hs]
  induction r with
  | zero =>
    intro i n Q W pl tot kt kp km kq kw h1 h2 h3 hi h4 h5 h6
    obtain ⟨n, rfl⟩ : ∃ z, n = z + 1 := ⟨n - 1, by omega⟩
    have := nd_len h3.1 (fun u hu => (h3.2.1 u hu).1)
    exact fin i n Q W pl tot kt kp km kq kw (by omega) (by omega) h6
  | succ r ih =>
    intro i n Q W pl tot kt kp km kq kw h1 h2 h3 hi h4 h5 h6
    obtain ⟨n, rfl⟩ : ∃ z, n = z + 1 := ⟨n - 1, by omega⟩
    by_cases e : i = Q.length
    · exact fin i n Q W pl tot kt kp km kq kw e (by omega) h6
    · have hiQ : i < Q.length := by omega
      have lQ := nd_len h3.1 (fun u hu => (h3.2.1 u hu).1)
      obtain ⟨hu, hne⟩ := h3.2.1 _ (List.getElem_mem hiQ)
      have dq := some_dv hne
      have isq := (hD _ hu _).mp dq
      rw [List.drop_eq_getElem_cons hiQ, sumQ_cons, phi_at hu] at h6
      rw [f_Search_plansWithout_L39, if_neg (nI_ge hiQ (by omega)), ev_grdN _ (show i < 6000 by omega) (by decide), ev_bnd, nI_clamp (show i < 2 ^ 31 by omega), h4 i hiQ, ev_grdN _ (show Q[i] < 6000 by omega) (by decide), nI_clamp (show Q[i] < 2 ^ 31 by omega), hd _ hu]
      cases ek : dvO D Q[i] with
      | zero =>
        rw [ek] at dq isq h6
        have fr : freedA B L[Q[i]] = true := isq.1
        have c1 : cntS B but 0 L[Q[i]] = 1 := by unfold cntS; rw [if_pos fr]
        rw [c1, Nat.mul_one] at h6
        rw [dq, if_pos (show oI (some 0) = 0 from rfl), ev_grdN _ (show Q[i] < 6000 by omega) (by decide), h5 _ hu, ev_b _ (s_capped _ _), ev_bnd, nI_1]
        exact ih (i + 1) n Q W (pl + W Q[i]) tot kt kp km kq kw (by omega) (by omega) (wy_next h3 hiQ) (by omega) h4 h5 (by omega)
      | succ k =>
        rw [ek] at dq isq h6
        have k31 : k + 1 < 2 ^ 31 := by have := hsm _ _ hu dq; omega
        have hs := t2 _ (List.getElem_mem hu)
        obtain ⟨l1, l2⟩ := t3 _ hu
        obtain ⟨kt1, kp1, km1, e1, -, -, w1, m1⟩ := s_listMoves (most := 7) (bk := false) h hs hc hwl hu t1 l1 l2 (by decide) kt kp km
        obtain ⟨Q1, W1, kq1, kw1, e2, x1, ⟨l, x2⟩, x3, x4, x5⟩ := s_hoL12 (i := i) h ht hcl hD hd hsm hbut hu dq w1 m1 (mvs B L[Q[i]] 7 false).length 0 jN Q W kq kw (by omega) (by show _ < 2000000; omega) h3 hiQ rfl h4 h5
        have hi1 : i < Q1.length := by rw [x2, List.length_append]; omega
        obtain ⟨qd, kt', kp', km', kq', kw', e3⟩ := ih (i + 1) n Q1 W1 pl tot kt1 kp1 km1 kq1 kw1 (by omega) (by omega) (wy_next x1 hi1) (by omega) x3 x4 (by
          rw [x5, List.drop_zero]
          have : cntS B but (k + 1) L[Q[i]] = ((mvs B L[Q[i]] 7 false).map fun c => if some (c / 32) = but then 0 else cntS B but k (tgt L[Q[i]] c)).sum := rfl
          rw [this] at h6
          omega)
        refine ⟨qd, kt', kp', km', kq', kw', ?_⟩
        have ho : f_Search_handOn (nI Q[i]) (oI but) (nI L.length) (nI Q.length) (nI (bw B)) (nI (bh B)) (nI (bn B)) kwl kt kk kp ka kwd kh ks klow khigh kslots km kd kq kw = some (nI Q1.length, kt1, kp1, km1, kq1, kw1) := by
          unfold f_Search_handOn
          rw [nI_0] at e2
          rw [show bI false = (0 : Int32) from rfl] at e1
          rw [ev_b _ (show f_Search_listMoves (nI Q[i]) 7 0 (nI L.length) (nI (bw B)) (nI (bh B)) (nI (bn B)) kwl kt kk kp ka kwd kh ks klow khigh km = _ from e1), un4_ap, ev_b _ e2, un3_ap]
        rw [dq, if_neg (show ¬ oI (some (k + 1)) = 0 from nI_ne0 (by omega) k31), ev_b _ ho, un6_ap, ev_bnd, nI_1, e3]
theorem s_plansWithout {B : Bas} {L : List (Nat → Nat)} {but : Option Nat} {k : Nat} {D : Nat → Option Nat} {klow khigh : Nat → Int64} {kwl : Int64} {kslots kfor kk ka kwd kh kd : Nat → Int32} {ks : Nat → Int64} (h : basOk B) (ht : tab B L klow khigh kslots kfor) (hc : chB B kk ka kwd kh ks) (hwl : chW B kwl) (hcl : clsd B 7 L)
    (hD : ∀ u, (hu : u < L.length) → ∀ k, D u = some k ↔ isD B 7 L[u] k) (hd : dR L.length kd D) (hsm : ∀ u k, u < L.length → D u = some k → k < L.length) (hbut : ∀ b, but = some b → b < 12) (h0 : 0 < L.length) (hk : isD B 7 L[0] k) (kqd : Int32) (kt : Int64) (kp km kq : Nat → Int32) (kw : Nat → Int64) :
    ∃ qd kt' kp' km' kq' kw', f_Search_plansWithout (oI but) (nI L.length) kqd (nI (bw B)) (nI (bh B)) (nI (bn B)) kwl kt kk kp ka kwd kh ks klow khigh kslots km kd kq kw = some (lN (capM (cntS B but k L[0])), qd, kt', kp', km', kq', kw') := by
  have t1 := ht.1
  have loop : ∀ (r u n : Nat) (kw : Nat → Int64), u + r = L.length → r < n → (∀ v, v < u → kw v = 0) → ∃ kw', f_Search_plansWithout_L2 (oI but) (nI L.length) n (nI u) kw = some kw' ∧ ∀ v, v < L.length → kw' v = 0 := by
    intro r
    induction r with
    | zero =>
      intro u n kw h1 h2 h3
      obtain ⟨n, rfl⟩ : ∃ z, n = z + 1 := ⟨n - 1, by omega⟩
      exact ⟨kw, by rw [f_Search_plansWithout_L2, if_pos (nI_le (by omega) (by omega))], fun v hv => h3 v (by omega)⟩
    | succ r ih =>
      intro u n kw h1 h2 h3
      obtain ⟨n, rfl⟩ : ∃ z, n = z + 1 := ⟨n - 1, by omega⟩
      rw [f_Search_plansWithout_L2, if_neg (nI_ge (by omega) (by omega)), ev_grdN _ (show u < 6000 by omega) (by decide), ev_bnd, nI_1, nI_clamp (by omega)]
      refine ih (u + 1) n _ (by omega) (by omega) (fun v hv => ?_)
      by_cases e : v = u
      · subst e; exact pk_uLs
      · rw [pk_uLn e]; exact h3 v (by omega)
  obtain ⟨kw0, e0, z0⟩ := loop L.length 0 jN kw (by omega) (by show _ < 2000000; omega) (fun v hv => by omega)
  have d0 := (hD 0 h0 k).mpr hk
  obtain ⟨kq1, kw1, e1, p1, p2⟩ := s_addWays (a := 0) (w := 1) (Q := []) (W := fun _ => 0) (kq := kq) (kw := kw0) t1 h0 (fun _ => by decide) (fun i hi => by cases hi) (fun u hu => by rw [z0 u hu]; rfl)
  rw [if_pos rfl, List.nil_append] at e1 p1
  have st : wyI L.length D [0] (updN (fun _ => 0) 0 (0 + 1)) 0 := by
    refine ⟨by simp, ?_, ?_, ?_, ?_⟩
    · intro u hu
      rw [List.mem_singleton.mp hu]
      exact ⟨h0, by rw [d0]; intro z; cases z⟩
    · intro u hu
      by_cases e : u = 0
      · subst e; rw [updN_s]; simp
      · rw [updN_n e]; simp [e]
    · intro j j' hj hj' hle
      have a1 : j = 0 := by simpa using hj
      have a2 : j' = 0 := by simpa using hj'
      subst a1; subst a2
      exact Nat.le_refl _
    · intro hi j hj
      have a1 : j = 0 := by simpa using hj
      subst a1
      omega
  obtain ⟨qd, kt', kp', km', kq', kw', e3⟩ := s_pwL39 (but := but) h ht hc hwl hcl hD hd hsm hbut 6000 0 jN [0] (updN (fun _ => 0) 0 (0 + 1)) 0 (cntS B but k L[0]) kt kp km kq1 kw1 (by omega) (by decide) st (by simp) p1 p2 (by
    rw [List.drop_zero, sumQ_one, updN_s, phi_at h0, dvO_some d0]
    omega)
  refine ⟨qd, kt', kp', km', kq', kw', ?_⟩
  unfold f_Search_plansWithout
  rw [nI_0] at e0 e1 e3
  rw [show capM 1 = 1 from rfl] at e1
  rw [show lN (capM 0) = 0 from rfl] at e3
  rw [ev_b _ e0, ev_b _ (show f_Search_addWays 0 1 0 kq kw0 = _ from e1), un3_ap, ev_b _ e3, un7_ap]
