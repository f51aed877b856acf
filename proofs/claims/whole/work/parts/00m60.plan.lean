/-! True distances of stands, the first plan, and the class's writePlan. -/
def canD (B : Bas) (most : Nat) : Nat → (Nat → Nat) → Prop
  | 0, v => freedA B v = true
  | k + 1, v => ∃ c, c ∈ mvs B v most false ∧ canD B most k (tgt v c)
def isD (B : Bas) (most : Nat) (v : Nat → Nat) (k : Nat) : Prop := canD B most k v ∧ ∀ j, j < k → ¬ canD B most j v
theorem isD_u {B : Bas} {most : Nat} {v : Nat → Nat} {j k : Nat} (h1 : isD B most v j) (h2 : isD B most v k) : j = k := by
  rcases Nat.lt_trichotomy j k with h | h | h
  · exact absurd h1.1 (h2.2 j h)
  · exact h
  · exact absurd h2.1 (h1.2 k h)
theorem isD_ex {B : Bas} {most : Nat} {v : Nat → Nat} {k : Nat} (h : canD B most k v) : ∃ j, j ≤ k ∧ isD B most v j := by
  obtain ⟨t, h1, h2, h3⟩ := least_ex (p := fun k => canD B most k v) h
  exact ⟨t, h1, h2, h3⟩
/-- L holds with a stand all that its moves lead to -/
def clsd (B : Bas) (most : Nat) (L : List (Nat → Nat)) : Prop := ∀ v, v ∈ L → ∀ c, c ∈ mvs B v most false → tgt v c ∈ L
theorem dist_isD {B : Bas} {most : Nat} {L : List (Nat → Nat)} {D : Nat → Option Nat} (hc : clsd B most L) (hd : distOk L.length (edL B L most) (frL B L) D) : ∀ u, (hu : u < L.length) → ∀ k, D u = some k ↔ isD B most L[u] k := by
  have a : ∀ k u, (hu : u < L.length) → D u = some k → canD B most k L[u] := by
    intro k
    induction k with
    | zero =>
      intro u hu e
      have := (hd.1 u hu).mp e
      rw [frL_at hu] at this
      exact this
    | succ k ih =>
      intro u hu e
      obtain ⟨v, hv, ⟨_, hv', c, h1, h2⟩, h3⟩ := hd.2.1 u k hu e
      exact ⟨c, h1, by rw [h2]; exact ih v hv h3⟩
  have b : ∀ k u, (hu : u < L.length) → canD B most k L[u] → ∃ k', k' ≤ k ∧ D u = some k' := by
    intro k
    induction k with
    | zero =>
      intro u hu e
      refine ⟨0, Nat.le_refl _, (hd.1 u hu).mpr ?_⟩
      rw [frL_at hu]; exact e
    | succ k ih =>
      rintro u hu ⟨c, h1, h2⟩
      obtain ⟨v, hv, ev⟩ := List.getElem_of_mem (hc _ (List.getElem_mem hu) c h1)
      rw [← ev] at h2
      obtain ⟨k', h3, h4⟩ := ih v hv h2
      obtain ⟨k'', h5, h6⟩ := hd.2.2 u v k' hu hv ⟨hu, hv, c, h1, ev.symm⟩ h4
      exact ⟨k'', by omega, h6⟩
  intro u hu k
  constructor
  · intro e
    refine ⟨a k u hu e, fun j hj hcj => ?_⟩
    obtain ⟨k', h1, h2⟩ := b j u hu hcj
    rw [e] at h2
    cases h2
    omega
  · rintro ⟨h1, h2⟩
    obtain ⟨k', h3, h4⟩ := b k u hu h1
    have := a k' u hu h4
    by_cases e : k' = k
    · rw [← e]; exact h4
    · exact absurd this (h2 k' (by omega))
theorem mvs_sorted {B : Bas} {P : Nat → Nat} {most : Nat} {bk : Bool} : (mvs B P most bk).Pairwise (· < ·) := by
  have dlen : ∀ b d c, c ∈ mvD B P most bk b d → 32 * b + 8 * d < c ∧ c < 32 * b + 8 * d + 8 := by
    intro b d c hc
    have := room_le (B := B) (P := P) (b := b) (d := d) (bk := bk)
    simp only [mvD, List.mem_map, List.mem_range] at hc
    obtain ⟨k, hk, e⟩ := hc
    omega
  have blen : ∀ b c, c ∈ mvB B P most bk b → 32 * b < c ∧ c < 32 * b + 32 := by
    intro b c hc
    simp only [mvB, List.mem_flatMap, List.mem_range] at hc
    obtain ⟨d, hd, h⟩ := hc
    have := dlen b d c h
    omega
  have sd : ∀ b d, (mvD B P most bk b d).Pairwise (· < ·) := by
    intro b d
    unfold mvD
    rw [List.pairwise_map]
    exact List.Pairwise.imp (fun h => by omega) List.pairwise_lt_range
  have sb : ∀ b, (mvB B P most bk b).Pairwise (· < ·) := by
    intro b
    unfold mvB
    rw [List.pairwise_flatMap]
    refine ⟨fun d _ => sd b d, List.Pairwise.imp (fun {d d'} hlt => ?_) List.pairwise_lt_range⟩
    intro x hx y hy
    have h1 := dlen b d x hx
    have h2 := dlen b d' y hy
    omega
  unfold mvs
  rw [List.pairwise_flatMap]
  refine ⟨fun b _ => sb b, List.Pairwise.imp (fun {b b'} hlt => ?_) List.pairwise_lt_range⟩
  intro x hx y hy
  have h1 := blen b x hx
  have h2 := blen b' y hy
  omega
theorem mvs_lt {B : Bas} {P : Nat → Nat} {most : Nat} {bk : Bool} {i j : Nat} (hi : i < (mvs B P most bk).length) (hj : j < (mvs B P most bk).length) : i < j ↔ (mvs B P most bk)[i] < (mvs B P most bk)[j] := by
  have s := List.pairwise_iff_getElem.mp (mvs_sorted (B := B) (P := P) (most := most) (bk := bk))
  constructor
  · intro h; exact s i j hi hj h
  · intro h
    rcases Nat.lt_trichotomy i j with e | e | e
    · exact e
    · subst e; omega
    · have := s j i hj hi e; omega
/-- the moves cs lead from v to the nearest freed stand, k away, each the first that leads nearer -/
def gPath (B : Bas) (most : Nat) : Nat → (Nat → Nat) → List Nat → Prop
  | 0, _, cs => cs = []
  | k + 1, v, cs => ∃ c cs', cs = c :: cs' ∧ c ∈ mvs B v most false ∧ isD B most (tgt v c) k ∧ (∀ c', c' ∈ mvs B v most false → c' < c → ¬ isD B most (tgt v c') k) ∧ gPath B most k (tgt v c) cs'
theorem gPath_len {B : Bas} {most : Nat} : ∀ {k : Nat} {v : Nat → Nat} {cs : List Nat}, gPath B most k v cs → cs.length = k
  | 0, v, cs, h => by rw [show cs = [] from h]; rfl
  | k + 1, v, cs, h => by
    obtain ⟨c, cs', e, -, -, -, h2⟩ := h
    rw [e, List.length_cons, gPath_len h2]
theorem gPath_u {B : Bas} {most : Nat} : ∀ {k : Nat} {v : Nat → Nat} {cs cs2 : List Nat}, gPath B most k v cs → gPath B most k v cs2 → cs = cs2
  | 0, v, cs, cs2, h, h2 => by rw [show cs = [] from h, show cs2 = [] from h2]
  | k + 1, v, cs, cs2, h, h2 => by
    obtain ⟨c, t, e, a1, a2, a3, a4⟩ := h
    obtain ⟨c2, t2, e2, b1, b2, b3, b4⟩ := h2
    have : c = c2 := by
      rcases Nat.lt_trichotomy c c2 with z | z | z
      · exact absurd a2 (b3 c a1 z)
      · exact z
      · exact absurd b2 (a3 c2 b1 z)
    subst this
    rw [e, e2, gPath_u a4 b4]
theorem gPath_400 {B : Bas} {most : Nat} (h : basOk B) : ∀ {k : Nat} {v : Nat → Nat} {cs : List Nat}, gPath B most k v cs → ∀ c, c ∈ cs → c < 400
  | 0, v, cs, hg, c, hc => by rw [show cs = [] from hg] at hc; cases hc
  | k + 1, v, cs, hg, c, hc => by
    obtain ⟨c0, t, e, a1, a2, a3, a4⟩ := hg
    rw [e] at hc
    rcases List.mem_cons.mp hc with z | z
    · rw [z]; exact mvs_400 h a1
    · exact gPath_400 h a4 c z
theorem s_firstTo {B : Bas} {L : List (Nat → Nat)} {most u k : Nat} {D : Nat → Option Nat} {klow khigh : Nat → Int64} {kwl : Int64} {kslots kfor kk ka kw kh kd : Nat → Int32} {ks : Nat → Int64} (h : basOk B) (ht : tab B L klow khigh kslots kfor) (hc : chB B kk ka kw kh ks) (hwl : chW B kwl) (hm : most < 100) (hcl : clsd B most L)
    (hD : ∀ u, (hu : u < L.length) → ∀ k, D u = some k ↔ isD B most L[u] k) (hd : dR L.length kd D) (hsm : ∀ u k, u < L.length → D u = some k → k < L.length) (hu : u < L.length) (hk : isD B most L[u] (k + 1)) (kt : Int64) (kp km : Nat → Int32) :
    ∃ c kt' kp' km', f_Search_firstTo (nI u) (nI k) (nI most) (nI L.length) (nI (bw B)) (nI (bh B)) (nI (bn B)) kwl kt kk kp ka kw kh ks klow khigh kslots km kd = some (nI c, kt', kp', km') ∧
      c ∈ mvs B L[u] most false ∧ isD B most (tgt L[u] c) k ∧ ∀ c', c' ∈ mvs B L[u] most false → c' < c → ¬ isD B most (tgt L[u] c') k := by
  obtain ⟨t1, t2, t3, t4⟩ := id ht
  have hs := t2 _ (List.getElem_mem hu)
  obtain ⟨l1, l2⟩ := t3 u hu
  have k31 : k < 2 ^ 31 := by
    have := hsm u (k + 1) hu ((hD u hu (k + 1)).mpr hk)
    omega
  obtain ⟨kt1, kp1, km1, e1, -, -, w1, m1⟩ := s_listMoves (most := most) (bk := false) h hs hc hwl hu t1 l1 l2 hm kt kp km
  -- the first move that leads nearer
  have ex : ∃ j, ∃ hj : j < (mvs B L[u] most false).length, isD B most (tgt L[u] (mvs B L[u] most false)[j]) k := by
    obtain ⟨c, h1, h2⟩ := hk.1
    obtain ⟨i, i1, i2⟩ := isD_ex h2
    have : i = k := by
      by_cases z : i < k
      · exact absurd ⟨c, h1, i2.1⟩ (hk.2 (i + 1) (by omega))
      · omega
    subst this
    obtain ⟨j, hj, ej⟩ := List.getElem_of_mem h1
    exact ⟨j, hj, by rw [ej]; exact i2⟩
  obtain ⟨j0, hj0⟩ := ex
  obtain ⟨j, jle, ⟨hj, pj⟩, jmin⟩ := least_ex (p := fun j => ∃ hj : j < (mvs B L[u] most false).length, isD B most (tgt L[u] (mvs B L[u] most false)[j]) k) hj0
  have ev : ∀ i, (hi : i < (mvs B L[u] most false).length) → ∃ o, f_Search_after (nI u) (nI (mvs B L[u] most false)[i]) klow khigh kslots = some (oI o) ∧ f_Search_farOf (oI o) (nI L.length) kd = some (oI (o.bind D)) ∧ ((oI (o.bind D) = nI k) = isD B most (tgt L[u] (mvs B L[u] most false)[i]) k) := by
    intro i hi
    have hci := List.getElem_mem hi
    obtain ⟨o, eo, io⟩ := s_after h ht hu rfl hci
    have min' := hcl _ (List.getElem_mem hu) _ hci
    cases o with
    | none => exact absurd min' (io.2 rfl)
    | some a =>
      obtain ⟨ha, ea⟩ := io.1 a rfl
      refine ⟨some a, eo, s_farOf t1 hd (fun v hv => by cases hv; exact ha), ?_⟩
      rw [show (some a).bind D = D a from rfl, oI_eq k31 (fun c hc => by have := hsm a c ha hc; omega), propext (hD a ha k), ea]
  have loop : ∀ (r i n : Nat), i + r = j → r < n → f_Search_firstTo_L12 (nI u) (nI k) (nI (mvs B L[u] most false).length) (nI L.length) klow khigh kslots km1 kd n (nI i) = some (.inl (nI j)) := by
    intro r
    induction r with
    | zero =>
      intro i n h1 h2
      obtain ⟨n, rfl⟩ : ∃ z, n = z + 1 := ⟨n - 1, by omega⟩
      have e : i = j := by omega
      subst e
      obtain ⟨o, o1, o2, o3⟩ := ev i hj
      rw [f_Search_firstTo_L12, if_neg (nI_ge hj (by omega)), ev_grdN _ (show i < 336 by omega) (by decide), nI_clamp (show i < 2 ^ 31 by omega), w1 i hj, ev_b _ o1, ev_b _ o2, if_pos (o3.mpr pj)]
    | succ r ih =>
      intro i n h1 h2
      obtain ⟨n, rfl⟩ : ∃ z, n = z + 1 := ⟨n - 1, by omega⟩
      have hi : i < (mvs B L[u] most false).length := by omega
      obtain ⟨o, o1, o2, o3⟩ := ev i hi
      rw [f_Search_firstTo_L12, if_neg (nI_ge hi (by omega)), ev_grdN _ (show i < 336 by omega) (by decide), nI_clamp (show i < 2 ^ 31 by omega), w1 i hi, ev_b _ o1, ev_b _ o2, if_neg (fun z => jmin i (by omega) ⟨hi, o3.mp z⟩), ev_bnd, nI_1]
      exact ih (i + 1) n (by omega) (by omega)
  refine ⟨(mvs B L[u] most false)[j], kt1, kp1, km1, ?_, List.getElem_mem hj, pj, ?_⟩
  · unfold f_Search_firstTo
    have l0 := loop j 0 jN (by omega) (by show j < 2000000; omega)
    rw [nI_0] at l0
    rw [show bI false = (0 : Int32) from rfl] at e1
    rw [ev_b _ e1, un4_ap, ev_b _ l0, jsel_l, ev_grdN _ (show j < 336 by omega) (by decide), nI_clamp (show j < 2 ^ 31 by omega), w1 j hj]
  · intro c' hc' lt hd'
    obtain ⟨j', hj', ej'⟩ := List.getElem_of_mem hc'
    refine jmin j' ((mvs_lt hj' hj).mpr (by rw [ej']; exact lt)) ⟨hj', by rw [ej']; exact hd'⟩
theorem s_planAdd {m c : Nat} {kpm : Nat → Int32} (hm : m < 6000) : f_Plan_add (nI c) (nI m) kpm = some (nI (m + 1), upd kpm m (nI c)) := by
  unfold f_Plan_add
  rw [if_neg (show ¬ (6000 : Int32) ≤ nI m from nI_ge (b := 6000) hm (by decide)), ev_grdN _ hm (by decide), ev_bnd, nI_clamp (by omega), nI_1]
theorem wrt_app2 {km : Nat → Int32} {l : List Nat} {c : Nat} {l2 : List Nat} (h : wrt km ((l ++ [c]) ++ l2)) : wrt km (l ++ (c :: l2)) := by
  rw [List.append_assoc] at h
  exact h
theorem s_wpL16 {B : Bas} {L : List (Nat → Nat)} {sg : Bool} {most : Nat} {D : Nat → Option Nat} {klow khigh : Nat → Int64} {kwl : Int64} {kslots kfor kk ka kw kh kd : Nat → Int32} {ks : Nat → Int64} (h : basOk B) (ht : tab B L klow khigh kslots kfor) (hc : chB B kk ka kw kh ks) (hwl : chW B kwl) (hmost : most = if sg then 1 else 7) (hcl : clsd B most L)
    (hD : ∀ u, (hu : u < L.length) → ∀ k, D u = some k ↔ isD B most L[u] k) (hd : dR L.length kd D) (hsm : ∀ u k, u < L.length → D u = some k → k < L.length) :
    ∀ (k u n : Nat) (pl : List Nat) (kt : Int64) (kp km kpm : Nat → Int32), (hu : u < L.length) → isD B most L[u] k → k < n → pl.length + k ≤ 6000 → wrt kpm pl →
      ∃ cs kt' kp' km' kpm', f_Search_writePlan_L16 (bI sg) (nI L.length) (nI (bw B)) (nI (bh B)) (nI (bn B)) kwl kk ka kw kh ks klow khigh kslots kd n (nI u) (nI k - 1) kt kp km (nI pl.length) kpm = some (kt', kp', km', nI (pl ++ cs).length, kpm') ∧ gPath B most k L[u] cs ∧ wrt kpm' (pl ++ cs) := by
  have t1 := ht.1
  intro k
  induction k with
  | zero =>
    intro u n pl kt kp km kpm hu hk hn hl hw
    obtain ⟨n, rfl⟩ : ∃ z, n = z + 1 := ⟨n - 1, by omega⟩
    refine ⟨[], kt, kp, km, kpm, ?_, rfl, by rw [List.append_nil]; exact hw⟩
    rw [f_Search_writePlan_L16, if_pos (show nI 0 - 1 < 0 by decide), List.append_nil]
  | succ k ih =>
    intro u n pl kt kp km kpm hu hk hn hl hw
    obtain ⟨n, rfl⟩ : ∃ z, n = z + 1 := ⟨n - 1, by omega⟩
    obtain ⟨c, kt1, kp1, km1, e1, c1, c2, c3⟩ := s_firstTo h ht hc hwl (show most < 100 by rw [hmost]; split <;> decide) hcl hD hd hsm hu hk kt kp km
    obtain ⟨o, eo, io⟩ := s_after h ht hu rfl c1
    have min' := hcl _ (List.getElem_mem hu) _ c1
    cases o with
    | none => exact absurd min' (io.2 rfl)
    | some a =>
      obtain ⟨ha, ea⟩ := io.1 a rfl
      obtain ⟨cs, kt2, kp2, km2, kpm2, e2, g2, w2⟩ := ih a n (pl ++ [c]) kt1 kp1 km1 (upd kpm pl.length (nI c)) ha (by rw [ea]; exact c2) (by omega) (by rw [List.length_append, List.length_singleton]; omega) (wrt_app hw)
      refine ⟨c :: cs, kt2, kp2, km2, kpm2, ?_, ⟨c, cs, rfl, c1, c2, c3, by rw [← ea]; exact g2⟩, wrt_app2 w2⟩
      rw [List.append_assoc, List.singleton_append] at e2
      rw [List.length_append, List.length_singleton] at e2
      have J : ∀ z : Int32, z = nI most → f_Search_writePlan_J39 (f_Search_writePlan_L16 (bI sg) (nI L.length) (nI (bw B)) (nI (bh B)) (nI (bn B)) kwl kk ka kw kh ks klow khigh kslots kd n) (bI sg) (nI u) (nI k) (nI u) (nI k) z (nI L.length) (nI (bw B)) (nI (bh B)) (nI (bn B)) kwl kt kk kp ka kw kh ks klow khigh kslots km kd (nI pl.length) kpm = some (kt2, kp2, km2, nI (pl ++ c :: cs).length, kpm2) := by
        intro z hz
        subst hz
        unfold f_Search_writePlan_J39
        rw [ev_b _ e1, un4_ap, ev_b _ (s_planAdd (show pl.length < 6000 by omega)), un2_ap, ev_b _ eo, ev_bnd, ← Int32.sub_eq_add_neg]
        exact e2
      rw [f_Search_writePlan_L16, nI_pred, if_neg (nI_pos (by omega)), if_neg (nI_pos (by omega))]
      cases sg with
      | true => rw [if_neg (show ¬ bI true = 0 by decide)]; exact J 1 (by rw [hmost]; rfl)
      | false => rw [if_pos (show bI false = 0 by decide)]; exact J 7 (by rw [hmost]; rfl)
theorem s_writePlan {B : Bas} {L : List (Nat → Nat)} {sg : Bool} {most k : Nat} {D : Nat → Option Nat} {klow khigh : Nat → Int64} {kwl : Int64} {kslots kfor kk ka kw kh kd : Nat → Int32} {ks : Nat → Int64} (h : basOk B) (ht : tab B L klow khigh kslots kfor) (hc : chB B kk ka kw kh ks) (hwl : chW B kwl) (hmost : most = if sg then 1 else 7) (hcl : clsd B most L)
    (hD : ∀ u, (hu : u < L.length) → ∀ k, D u = some k ↔ isD B most L[u] k) (hd : dR L.length kd D) (hsm : ∀ u k, u < L.length → D u = some k → k < L.length) (h0 : 0 < L.length) (hk : isD B most L[0] k) (kt : Int64) (kp km : Nat → Int32) (kps : Int32) (kpm : Nat → Int32) :
    ∃ cs kt' kp' km' kpm', f_Search_writePlan (bI sg) (nI L.length) (nI (bw B)) (nI (bh B)) (nI (bn B)) kwl kt kk kp ka kw kh ks klow khigh kslots km kd kps kpm = some (nI cs.length, kt', kp', km', nI cs.length, kpm') ∧ gPath B most k L[0] cs ∧ wrt kpm' cs ∧ cs.length = k := by
  have t1 := ht.1
  have d0 := (hD 0 h0 k).mpr hk
  have kl := hsm 0 k h0 d0
  obtain ⟨cs, kt2, kp2, km2, kpm2, e2, g2, w2⟩ := s_wpL16 h ht hc hwl hmost hcl hD hd hsm k 0 jN [] kt kp km kpm h0 hk (by show k < 2000000; omega) (by simp; omega) (fun i hi => by cases hi)
  rw [List.nil_append] at e2 w2
  refine ⟨cs, kt2, kp2, km2, kpm2, ?_, g2, w2, gPath_len g2⟩
  have fo := s_farOf (o := some 0) t1 hd (fun u hu => by cases hu; exact h0)
  rw [show (some 0).bind D = D 0 from rfl, d0] at fo
  rw [List.length_nil, nI_0] at e2
  unfold f_Search_writePlan
  rw [ev_b _ (show f_Search_farOf 0 (nI L.length) kd = _ from fo), ev_bnd, show oI (some k) = nI k from rfl, ev_b _ e2, un5_ap]
