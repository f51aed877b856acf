/-! measure, farOf, hardest, farthest of the class. -/
theorem s_msL55 {B : Bas} {L : List (Nat → Nat)} {sg : Bool} {most : Nat} {klow khigh : Nat → Int64} {kwl : Int64} {kslots kfor kk ka kw kh : Nat → Int32} {ks : Nat → Int64} (h : basOk B) (ht : tab B L klow khigh kslots kfor) (hnd : L.Nodup) (hc : chB B kk ka kw kh ks) (hwl : chW B kwl) (hmost : most = if sg then 1 else 7) :
    ∀ (r i n : Nat) (Q : List Nat) (D : Nat → Option Nat) (kt : Int64) (kp km kd kq : Nat → Int32), i + r = 6000 → r < n → bfsI L.length (edL B L most) (frL B L) Q D i → i ≤ Q.length → dR L.length kd D → wrt kq Q → Q.length ≤ L.length →
      ∃ Q' D' kt' kp' km' kd' kq', f_Search_measure_L55 (bI sg) (nI L.length) (nI (bw B)) (nI (bh B)) (nI (bn B)) kwl kk ka kw kh ks klow khigh kslots n (nI i) (nI Q.length) kt kp km kd kq = some (nI Q'.length, kt', kp', km', kd', kq') ∧
        bfsI L.length (edL B L most) (frL B L) Q' D' Q'.length ∧ dR L.length kd' D' ∧ Q'.length ≤ L.length := by
  obtain ⟨t1, t2, t3, t4⟩ := id ht
  intro r
  induction r with
  | zero =>
    intro i n Q D kt kp km kd kq h1 h2 h3 hi h4 h5 h6
    obtain ⟨n, rfl⟩ : ∃ z, n = z + 1 := ⟨n - 1, by omega⟩
    have e : i = Q.length := by omega
    subst e
    exact ⟨Q, D, kt, kp, km, kd, kq, by rw [f_Search_measure_L55, if_pos (nI_le (Nat.le_refl _) (by omega))], h3, h4, h6⟩
  | succ r ih =>
    intro i n Q D kt kp km kd kq h1 h2 h3 hi h4 h5 h6
    obtain ⟨n, rfl⟩ : ∃ z, n = z + 1 := ⟨n - 1, by omega⟩
    by_cases e : i = Q.length
    · subst e
      exact ⟨Q, D, kt, kp, km, kd, kq, by rw [f_Search_measure_L55, if_pos (nI_le (Nat.le_refl _) (by omega))], h3, h4, h6⟩
    · have hiQ : i < Q.length := by omega
      have ha : Q[i] < L.length := h3.1.2 _ (List.getElem_mem hiQ)
      have hs := t2 _ (List.getElem_mem ha)
      obtain ⟨l1, l2⟩ := t3 _ ha
      obtain ⟨kt1, kp1, km1, e1, -, -, w1, m1⟩ := s_listMoves (most := most) (bk := true) h hs hc hwl ha t1 l1 l2 (by rw [hmost]; split <;> decide) kt kp km
      obtain ⟨Q1, D1, kd1, kq1, e2, x1, ⟨l, x2⟩, x3, x4, x5, x6⟩ := s_msL91 (most := most) (i := i) (v1 := bI sg) (v2 := nI i) h ht hnd ha w1 m1 (mvs B L[Q[i]] most true).length 0 jN Q D kd kq (by omega) (by show _ < 2000000; omega) h3 hiQ rfl h4 h5 h6 (fun j' _ hlt => by omega)
      have hi1 : i < Q1.length := by rw [x2, List.length_append]; omega
      have q1i : Q1[i] = Q[i] := by simp only [x2]; exact List.getElem_append_left hiQ
      have nx : bfsI L.length (edL B L most) (frL B L) Q1 D1 (i + 1) := bfs_next x1 hi1 (by
        intro u hu he
        rw [q1i] at he
        obtain ⟨hu', ha', ed⟩ := he
        have su := t2 _ (List.getElem_mem hu')
        rw [edg_back h su.1 hs.1] at ed
        obtain ⟨c, hcm, ec⟩ := ed
        obtain ⟨j', hj', ej'⟩ := List.getElem_of_mem hcm
        exact x6 j' hj' u hu' (by rw [ej', ec]))
      obtain ⟨Q2, D2, kt2, kp2, km2, kd2, kq2, e3, y1, y2, y3⟩ := ih (i + 1) n Q1 D1 kt1 kp1 km1 kd1 kq1 (by omega) (by omega) nx (by omega) x3 x4 x5
      refine ⟨Q2, D2, kt2, kp2, km2, kd2, kq2, ?_, y1, y2, y3⟩
      have J : ∀ z : Int32, z = nI most → f_Search_measure_J82 (f_Search_measure_L55 (bI sg) (nI L.length) (nI (bw B)) (nI (bh B)) (nI (bn B)) kwl kk ka kw kh ks klow khigh kslots n) (bI sg) (nI i) (nI Q[i]) (nI Q[i]) z (nI L.length) (nI Q.length) (nI (bw B)) (nI (bh B)) (nI (bn B)) kwl kt kk kp ka kw kh ks klow khigh kslots km kd kq = some (nI Q2.length, kt2, kp2, km2, kd2, kq2) := by
        intro z hz
        subst hz
        unfold f_Search_measure_J82
        rw [nI_0] at e2
        rw [show bI true = (1 : Int32) from rfl] at e1
        rw [ev_b _ e1, un4_ap, ev_b _ e2, un3_ap, ev_bnd, nI_1, e3]
      rw [f_Search_measure_L55, if_neg (nI_ge hiQ (by omega)), ev_grdN _ (show i < 6000 by omega) (by decide), ev_bnd, nI_clamp (show i < 2 ^ 31 by omega), h5 i hiQ]
      cases sg with
      | true => rw [if_neg (show ¬ bI true = 0 by decide)]; exact J 1 (by rw [hmost]; rfl)
      | false => rw [if_pos (show bI false = 0 by decide)]; exact J 7 (by rw [hmost]; rfl)
theorem s_measure {B : Bas} {L : List (Nat → Nat)} {sg : Bool} {most : Nat} {klow khigh : Nat → Int64} {kwl : Int64} {kslots kfor kk kg ka kw kh : Nat → Int32} {ks : Nat → Int64} (h : basOk B) (ht : tab B L klow khigh kslots kfor) (hnd : L.Nodup) (hc : chB B kk ka kw kh ks) (hg : chG B kg) (hwl : chW B kwl) (hmost : most = if sg then 1 else 7) (kqd : Int32) (kt : Int64) (kp km kd kq : Nat → Int32) :
    ∃ qd kt' kp' km' kd' kq' D, f_Search_measure (bI sg) (nI L.length) kqd (nI (bw B)) (nI (bh B)) (nI (bn B)) kwl kt kk kp kg ka kw kh ks klow khigh kslots km kd kq = some (qd, kt', kp', km', kd', kq') ∧
      distOk L.length (edL B L most) (frL B L) D ∧ dR L.length kd' D ∧ (∀ u k, u < L.length → D u = some k → k < L.length) := by
  have t1 := ht.1
  obtain ⟨kt1, kp1, kd1, kq1, e1, x1, x2⟩ := s_msL7 (v1 := bI sg) h ht hc hg L.length 0 jN kt kp kd kq (by omega) (by show _ < 2000000; omega) (fun v hv => by omega) (fun i hi => by cases hi)
  have st : bfsI L.length (edL B L most) (frL B L) ((List.range L.length).filter (frL B L)) (fun u => if frL B L u then some 0 else none) 0 := bfs_start (List.Nodup.sublist List.filter_sublist List.nodup_range) (fun u => by rw [List.mem_filter, List.mem_range]) (fun u hu => rfl)
  obtain ⟨Q2, D2, kt2, kp2, km2, kd2, kq2, e3, y1, y2, y3⟩ := s_msL55 h ht hnd hc hwl hmost 6000 0 jN _ _ kt1 kp1 km kd1 kq1 (by omega) (by decide) st (Nat.zero_le _) x1 x2 (filt_len _ _)
  refine ⟨nI Q2.length, kt2, kp2, km2, kd2, kq2, D2, ?_, bfs_end y1, y2, ?_⟩
  · unfold f_Search_measure
    rw [nI_0] at e1 e3
    rw [show ((List.range 0).filter (frL B L)).length = 0 from rfl, nI_0] at e1
    rw [ev_b _ e1, un5_ap, ev_b _ e3, un6_ap]
  · intro u k hu hk
    have mu : u ∈ Q2 := (y1.2.1 u hu).mpr (by rw [hk]; intro z; cases z)
    obtain ⟨t, ht', et⟩ := List.getElem_of_mem mu
    have := y1.2.2.2.2.1 t ht'
    rw [et, dvO_some hk] at this
    omega
theorem s_farOf {N : Nat} {kd : Nat → Int32} {D : Nat → Option Nat} {o : Option Nat} (hN : N ≤ 6000) (hd : dR N kd D) (ho : ∀ u, o = some u → u < N) : f_Search_farOf (oI o) (nI N) kd = some (oI (o.bind D)) := by
  unfold f_Search_farOf
  cases o with
  | none => rfl
  | some u =>
    have hu := ho u rfl
    rw [show oI (some u) = nI u from rfl, if_neg (nI_pos (by omega)), if_pos (nI_lt hu (by omega)), ev_grdN _ (show u < 6000 by omega) (by decide), nI_clamp (by omega), hd u hu]
    rfl
/-- the first of the greatest among the first u -/
def bestO (D : Nat → Option Nat) : Nat → Option Nat
  | 0 => none
  | u + 1 => match D u, bestO D u with
    | none, b => b
    | some _, none => some u
    | some k, some b => if dvO D b < k then some u else some b
theorem bestO_lt {D : Nat → Option Nat} : ∀ {u b : Nat}, bestO D u = some b → b < u ∧ D b ≠ none
  | 0, b, h => by cases h
  | u + 1, b, h => by
    unfold bestO at h
    cases e : D u with
    | none =>
      rw [e] at h
      have := bestO_lt (D := D) (u := u) (b := b) h
      exact ⟨by omega, this.2⟩
    | some k =>
      cases e2 : bestO D u with
      | none =>
        rw [e, e2] at h
        cases h
        exact ⟨by omega, by rw [e]; intro z; cases z⟩
      | some b2 =>
        rw [e, e2] at h
        have l2 := bestO_lt e2
        by_cases c : dvO D b2 < k
        · have h' : (if dvO D b2 < k then some u else some b2) = some b := h
          rw [if_pos c] at h'; cases h'
          exact ⟨by omega, by rw [e]; intro z; cases z⟩
        · have h' : (if dvO D b2 < k then some u else some b2) = some b := h
          rw [if_neg c] at h'; cases h'
          exact ⟨by omega, l2.2⟩
theorem s_hardest {N : Nat} {kd : Nat → Int32} {D : Nat → Option Nat} (hN : N ≤ 6000) (hd : dR N kd D) (hk : ∀ u k, u < N → D u = some k → k < 2 ^ 31) : f_Search_hardest (nI N) kd = some (oI (bestO D N)) := by
  have loop : ∀ (r u n : Nat), u + r = N → r < n → f_Search_hardest_L4 (nI N) kd n (oI (bestO D u)) (nI u) = some (oI (bestO D N)) := by
    intro r
    induction r with
    | zero =>
      intro u n h1 h2
      obtain ⟨n, rfl⟩ : ∃ z, n = z + 1 := ⟨n - 1, by omega⟩
      have e : u = N := by omega
      subst e
      rw [f_Search_hardest_L4, if_pos (nI_le (Nat.le_refl _) (by omega))]
    | succ r ih =>
      intro u n h1 h2
      obtain ⟨n, rfl⟩ : ∃ z, n = z + 1 := ⟨n - 1, by omega⟩
      have hu : u < N := by omega
      have fo := s_farOf (o := bestO D u) hN hd (fun v hv => by have := (bestO_lt hv).1; omega)
      rw [f_Search_hardest_L4, if_neg (nI_ge hu (by omega)), ev_grdN _ (show u < 6000 by omega) (by decide), ev_b _ fo, nI_clamp (show u < 2 ^ 31 by omega), hd u hu, ev_bnd, ev_bnd, nI_1]
      have nxt := ih (u + 1) n (by omega) (by omega)
      have bs : bestO D (u + 1) = (match D u, bestO D u with
        | none, b => b
        | some _, none => some u
        | some k, some b => if dvO D b < k then some u else some b) := rfl
      rw [bs] at nxt
      cases e : D u with
      | none =>
        rw [e] at nxt
        have : oI none ≤ oI ((bestO D u).bind D) := by
          cases e2 : bestO D u with
          | none => show oI none ≤ oI none; exact Int32.le_refl _
          | some b =>
            have l2 := bestO_lt e2
            rw [show (some b).bind D = D b from rfl, some_dv l2.2]
            have := hk b _ (by omega) (some_dv l2.2)
            show (-1 : Int32) ≤ nI (dvO D b)
            rw [Int32.le_iff_toInt_le, nI_toInt this]
            show (-1 : Int) ≤ _
            omega
        rw [if_pos this]
        exact nxt
      | some k =>
        have k31 := hk u k hu e
        cases e2 : bestO D u with
        | none =>
          rw [e, e2] at nxt
          have : ¬ oI (some k) ≤ oI ((none : Option Nat).bind D) := by
            show ¬ nI k ≤ (-1 : Int32)
            rw [Int32.le_iff_toInt_le, nI_toInt k31]
            show ¬ (k : Int) ≤ -1
            omega
          rw [if_neg this]
          exact nxt
        | some b =>
          have l2 := bestO_lt e2
          have b31 := hk b _ (by omega) (some_dv l2.2)
          rw [e, e2] at nxt
          rw [show (some b).bind D = D b from rfl, some_dv l2.2]
          have cmp : (oI (some k) ≤ oI (some (dvO D b))) = (k ≤ dvO D b) := nI_leE k31 b31
          simp only [cmp]
          have nxt' : f_Search_hardest_L4 (nI N) kd n (oI (if dvO D b < k then some u else some b)) (nI (u + 1)) = some (oI (bestO D N)) := nxt
          by_cases c : dvO D b < k
          · rw [if_pos c] at nxt'
            rw [if_neg (by omega)]
            exact nxt'
          · rw [if_neg c] at nxt'
            rw [if_pos (by omega)]
            exact nxt'
  unfold f_Search_hardest
  have e := loop N 0 jN (by omega) (by show N < 2000000; omega)
  rw [nI_0] at e
  rw [ev_b _ (show f_Search_hardest_L4 (nI N) kd jN (-1) 0 = _ from e)]
theorem s_farthest {N : Nat} {kd : Nat → Int32} {D : Nat → Option Nat} (hN : N ≤ 6000) (hd : dR N kd D) (hk : ∀ u k, u < N → D u = some k → k < 2 ^ 31) : f_Search_farthest (nI N) kd = some (oI ((bestO D N).bind D)) := by
  unfold f_Search_farthest
  rw [ev_b _ (s_hardest hN hd hk), ev_b _ (s_farOf hN hd (fun u hu => (bestO_lt hu).1))]
