/-! explore of the class. -/
theorem s_exL18 {B : Bas} {v0 : Nat → Nat} {kwl : Int64} {kk ka kw kh : Nat → Int32} {ks : Nat → Int64} (h : basOk B) (hc : chB B kk ka kw kh ks) (hwl : chW B kwl) :
    ∀ (r m n : Nat) (kfound ksp : Int32) (kt : Int64) (kp : Nat → Int32) (klow khigh : Nat → Int64) (kslots kfor km : Nat → Int32), m + r = 6000 → r < n → exS B (Lk (sucB B 7) v0 m) kfound ksp klow khigh kslots kfor →
      ∃ f s t p a b c d mv, f_Search_explore_L18 (nI (bw B)) (nI (bh B)) (nI (bn B)) kwl kk ka kw kh ks n (nI m) kfound ksp kt kp klow khigh kslots kfor km = some (f, s, t, p, a, b, c, d, mv) ∧ exS B (Lk (sucB B 7) v0 6001) f s a b c d := by
  have stop : ∀ (m n : Nat) (kfound ksp : Int32) (kt : Int64) (kp : Nat → Int32) (klow khigh : Nat → Int64) (kslots kfor km : Nat → Int32), m ≤ 6000 → exS B (Lk (sucB B 7) v0 m) kfound ksp klow khigh kslots kfor → (ksp = 0 → (Lk (sucB B 7) v0 m).length ≤ m) →
      f_Search_explore_L18 (nI (bw B)) (nI (bh B)) (nI (bn B)) kwl kk ka kw kh ks (n + 1) (nI m) kfound ksp kt kp klow khigh kslots kfor km = some (kfound, ksp, kt, kp, klow, khigh, kslots, kfor, km) ∧ exS B (Lk (sucB B 7) v0 6001) kfound ksp klow khigh kslots kfor := by
    intro m n kfound ksp kt kp klow khigh kslots kfor km hm hx h0
    rcases hx with ⟨e1, e2, ht⟩ | ⟨e1, e2, L, e3, e4, ⟨l, e5⟩, ht⟩
    · have l0 := h0 e1
      subst e1; subst e2
      constructor
      · rw [f_Search_explore_L18, if_pos (nI_le l0 (by omega))]
      · have e := Lk_end (sc := sucB B 7) (v0 := v0) l0 (6001 - m)
        rw [show m + (6001 - m) = 6001 by omega] at e
        rw [e]
        exact Or.inl ⟨rfl, rfl, ht⟩
    · subst e1; subst e4
      constructor
      · rw [f_Search_explore_L18, if_neg (show ¬ (1 : Int32) = 0 by decide)]
        split <;> rfl
      · obtain ⟨l2, e⟩ := Lk_pre m (6001 - m) (sc := sucB B 7) (v0 := v0)
        rw [show m + (6001 - m) = 6001 by omega] at e
        rw [e]
        exact Or.inr ⟨rfl, by rw [List.length_append]; omega, L, e3, rfl, ⟨l ++ l2, by rw [e5, List.append_assoc]⟩, ht⟩
  intro r
  induction r with
  | zero =>
    intro m n kfound ksp kt kp klow khigh kslots kfor km h1 h2 hx
    obtain ⟨n, rfl⟩ : ∃ z, n = z + 1 := ⟨n - 1, by omega⟩
    have q := stop m n kfound ksp kt kp klow khigh kslots kfor km (by omega) hx (by
      intro e
      rcases hx with ⟨-, -, ht⟩ | ⟨e1, -⟩
      · have := ht.1; omega
      · rw [e1] at e; exact absurd e (by decide))
    exact ⟨_, _, _, _, _, _, _, _, _, q.1, q.2⟩
  | succ r ih =>
    intro m n kfound ksp kt kp klow khigh kslots kfor km h1 h2 hx
    obtain ⟨n, rfl⟩ : ∃ z, n = z + 1 := ⟨n - 1, by omega⟩
    by_cases go : ksp = 0 ∧ m < (Lk (sucB B 7) v0 m).length
    · obtain ⟨e0, lt⟩ := go
      rcases hx with ⟨-, e2, ht⟩ | ⟨e1, -⟩
      · subst e0; subst e2
        obtain ⟨t1, t2, t3, t4⟩ := id ht
        obtain ⟨l1, l2⟩ := t3 m lt
        have hs := t2 _ (List.getElem_mem lt)
        obtain ⟨kt', kp', km', e, -, -, w, l⟩ := s_listMoves (most := 7) (bk := false) h hs hc hwl lt t1 l1 l2 (by decide) kt kp km
        obtain ⟨f, s, a, b, c, d, e', x⟩ := s_exL45 h t1 lt rfl hs w l (mvs B (Lk (sucB B 7) v0 m)[m] 7 false).length 0 jN _ _ _ _ _ _ _ (by omega) (by show _ < 2000000; omega) ⟨[], (List.append_nil _).symm⟩ (Or.inl ⟨rfl, rfl, ht⟩)
        have nx : ((List.drop 0 (mvs B (Lk (sucB B 7) v0 m)[m] 7 false)).map (tgt (Lk (sucB B 7) v0 m)[m])).foldl meetL (Lk (sucB B 7) v0 m) = Lk (sucB B 7) v0 (m + 1) := by
          rw [Lk_go lt]; rfl
        rw [nx] at x
        obtain ⟨f', s', t', p', a', b', c', d', mv', e'', x'⟩ := ih (m + 1) n f s kt' kp' a b c d km' (by omega) (by omega) x
        refine ⟨f', s', t', p', a', b', c', d', mv', ?_, x'⟩
        rw [f_Search_explore_L18, if_neg (nI_ge lt (by omega)), if_pos rfl, ev_b _ (show f_Search_listMoves (nI m) 7 0 (nI (Lk (sucB B 7) v0 m).length) (nI (bw B)) (nI (bh B)) (nI (bn B)) kwl kt kk kp ka kw kh ks klow khigh km = _ from e)]
        show jb (f_Search_explore_L45 (nI m) _ km' jN 0 _ 0 klow khigh kslots kfor) _ = _
        rw [ev_b _ (show f_Search_explore_L45 (nI m) _ km' jN 0 _ 0 klow khigh kslots kfor = _ from e')]
        show f_Search_explore_L18 _ _ _ _ _ _ _ _ _ n (nI m + 1) f s kt' kp' a b c d km' = _
        rw [nI_1, e'']
      · rw [e1] at e0; exact absurd e0 (by decide)
    · have q := stop m n kfound ksp kt kp klow khigh kslots kfor km (by omega) hx (fun e => by
        apply Nat.le_of_not_lt
        exact fun z => go ⟨e, z⟩)
      exact ⟨_, _, _, _, _, _, _, _, _, q.1, q.2⟩
/-- between searches: the slots that are taken are those of the stands that were found -/
def schI (kfound : Int32) (kslots kfor : Nat → Int32) : Prop := ∃ L : List (Nat → Nat), L.length ≤ 6000 ∧ kfound = nI L.length ∧ slA L kslots kfor
theorem exS_sch {B : Bas} {T : List (Nat → Nat)} {kfound ksp : Int32} {klow khigh : Nat → Int64} {kslots kfor : Nat → Int32} (hx : exS B T kfound ksp klow khigh kslots kfor) : schI kfound kslots kfor := by
  rcases hx with ⟨-, e2, ht⟩ | ⟨-, -, L, -, e4, -, ht⟩
  · exact ⟨T, ht.1, e2, ht.2.2.2⟩
  · exact ⟨L, ht.1, e4, ht.2.2.2⟩
theorem s_clear {kfound ksp : Int32} {kslots kfor : Nat → Int32} (hx : schI kfound kslots kfor) : ∃ k', f_Search_clear kfound ksp kslots kfor = some (0, 0, k') ∧ ∀ s, s < 16384 → k' s = 0 := by
  obtain ⟨L, hl, e, sl, sf, hk, hkf, ho⟩ := hx
  subst e
  have loop : ∀ (r i n : Nat) (k : Nat → Int32), i + r = L.length → r < n → (∀ s, s < 16384 → k s = 0 ∨ ∃ j, j < L.length ∧ i ≤ j ∧ sf j = s) → ∃ k', f_Search_clear_L2 (nI L.length) kfor n (nI i) k = some k' ∧ ∀ s, s < 16384 → k' s = 0 := by
    intro r
    induction r with
    | zero =>
      intro i n k h1 h2 h3
      obtain ⟨n, rfl⟩ : ∃ z, n = z + 1 := ⟨n - 1, by omega⟩
      refine ⟨k, by rw [f_Search_clear_L2, if_pos (nI_le (by omega) (by omega))], fun s hs => ?_⟩
      rcases h3 s hs with q | ⟨j, q1, q2, -⟩
      · exact q
      · omega
    | succ r ih =>
      intro i n k h1 h2 h3
      obtain ⟨n, rfl⟩ : ∃ z, n = z + 1 := ⟨n - 1, by omega⟩
      obtain ⟨o1, o2⟩ := ho.1 i (by omega)
      rw [f_Search_clear_L2, if_neg (nI_ge (by omega) (by omega)), ev_grdN _ (show i < 6000 by omega) (by decide), nI_clamp (show i < 2 ^ 31 by omega), hkf i (by omega), ev_grdN _ o1 (by decide), ev_bnd, nI_clamp (by omega), nI_1]
      refine ih (i + 1) n _ (by omega) (by omega) (fun s hs => ?_)
      by_cases e : s = sf i
      · subst e; exact Or.inl pk_us
      · rw [pk_un e]
        rcases h3 s hs with q | ⟨j, q1, q2, q3⟩
        · exact Or.inl q
        · exact Or.inr ⟨j, q1, by
            have : j ≠ i := fun z => e (by rw [← q3, z])
            omega, q3⟩
  obtain ⟨k', e, z⟩ := loop L.length 0 jN kslots (by omega) (by show _ < 2000000; omega) (fun s hs => by
    by_cases q : sl s = 0
    · exact Or.inl (by rw [hk s hs, q]; rfl)
    · obtain ⟨a, b⟩ := ho.2.1 s hs q
      exact Or.inr ⟨sl s - 1, by omega, by omega, b⟩)
  refine ⟨k', ?_, z⟩
  unfold f_Search_clear
  rw [ev_b _ (show f_Search_clear_L2 (nI L.length) kfor jN 0 kslots = _ from e)]
theorem nar_bI (c : Bool) : vp_nar .boolean (bI c) = bI c := by cases c <;> decide
/-- copyFrom: the first n of all rows -/
theorem s_copyFrom {n : Nat} {b2 d2 c2 : Int32} {w2 t2 : Int64} {k2 p2 l2 g2 a2 wd2 hg2 : Nat → Int32} {s2 : Nat → Int64} (hn : n ≤ 12) (ha : ∀ b, b < n → vp_nar .boolean (a2 b) = a2 b) (b1 d1 c1 : Int32) (w1 t1 : Int64) (k1 p1 l1 g1 a1 wd1 hg1 : Nat → Int32) (s1 : Nat → Int64) (hc2 : c2 = nI n) :
    ∃ k p l g a wd hg s, f_Chart_copyFrom b1 d1 c1 w1 t1 k1 p1 l1 g1 a1 wd1 hg1 s1 b2 d2 c2 w2 t2 k2 p2 l2 g2 a2 wd2 hg2 s2 = some (b2, d2, c2, w2, t2, k, p, l, g, a, wd, hg, s) ∧
      ∀ b, b < n → k b = k2 b ∧ p b = p2 b ∧ l b = l2 b ∧ g b = g2 b ∧ a b = a2 b ∧ wd b = wd2 b ∧ hg b = hg2 b ∧ s b = s2 b := by
  subst hc2
  have loop : ∀ (r i m : Nat) (k1 p1 l1 g1 a1 wd1 hg1 : Nat → Int32) (s1 : Nat → Int64), i + r = n → r < m → (∀ b, b < i → k1 b = k2 b ∧ p1 b = p2 b ∧ l1 b = l2 b ∧ g1 b = g2 b ∧ a1 b = a2 b ∧ wd1 b = wd2 b ∧ hg1 b = hg2 b ∧ s1 b = s2 b) →
      ∃ k p l g a wd hg s, f_Chart_copyFrom_L42 (nI n) k2 p2 l2 g2 a2 wd2 hg2 s2 m (nI i) k1 p1 l1 g1 a1 wd1 hg1 s1 = some (k, p, l, g, a, wd, hg, s) ∧ ∀ b, b < n → k b = k2 b ∧ p b = p2 b ∧ l b = l2 b ∧ g b = g2 b ∧ a b = a2 b ∧ wd b = wd2 b ∧ hg b = hg2 b ∧ s b = s2 b := by
    intro r
    induction r with
    | zero =>
      intro i m k1 p1 l1 g1 a1 wd1 hg1 s1 h1 h2 h3
      obtain ⟨m, rfl⟩ : ∃ z, m = z + 1 := ⟨m - 1, by omega⟩
      have e : i = n := by omega
      subst e
      exact ⟨k1, p1, l1, g1, a1, wd1, hg1, s1, by rw [f_Chart_copyFrom_L42, if_pos (nI_le (Nat.le_refl _) (by omega))], h3⟩
    | succ r ih =>
      intro i m k1 p1 l1 g1 a1 wd1 hg1 s1 h1 h2 h3
      obtain ⟨m, rfl⟩ : ∃ z, m = z + 1 := ⟨m - 1, by omega⟩
      have i12 : i < 12 := by omega
      have cb : f_Chart_copyBarge (nI i) (nI i) k1 p1 l1 g1 a1 wd1 hg1 s1 k2 p2 l2 g2 a2 wd2 hg2 s2 = some (upd k1 i (k2 i), upd p1 i (p2 i), upd l1 i (l2 i), upd g1 i (g2 i), upd a1 i (a2 i), upd wd1 i (wd2 i), upd hg1 i (hg2 i), vp_updL s1 i (s2 i)) := by
        unfold f_Chart_copyBarge
        simp only [ev_grdN _ i12 (show 12 < 2 ^ 31 by decide), ev_bnd, cl_nI i12, ha i (show i < n by omega)]
      rw [f_Chart_copyFrom_L42, if_neg (nI_ge (by omega) (by omega)), ev_b _ cb]
      show ∃ k p l g a wd hg s, f_Chart_copyFrom_L42 (nI n) k2 p2 l2 g2 a2 wd2 hg2 s2 m (nI i + 1) (upd k1 i (k2 i)) (upd p1 i (p2 i)) (upd l1 i (l2 i)) (upd g1 i (g2 i)) (upd a1 i (a2 i)) (upd wd1 i (wd2 i)) (upd hg1 i (hg2 i)) (vp_updL s1 i (s2 i)) = some (k, p, l, g, a, wd, hg, s) ∧ _
      rw [nI_1]
      refine ih (i + 1) m _ _ _ _ _ _ _ _ (by omega) (by omega) (fun b hb => ?_)
      by_cases e : b = i
      · subst e
        exact ⟨pk_us, pk_us, pk_us, pk_us, pk_us, pk_us, pk_us, pk_uLs⟩
      · obtain ⟨q1, q2, q3, q4, q5, q6, q7, q8⟩ := h3 b (by omega)
        refine ⟨by rw [pk_un e]; exact q1, by rw [pk_un e]; exact q2, by rw [pk_un e]; exact q3, by rw [pk_un e]; exact q4, by rw [pk_un e]; exact q5, by rw [pk_un e]; exact q6, by rw [pk_un e]; exact q7, by rw [pk_uLn e]; exact q8⟩
  obtain ⟨k, p, l, g, a, wd, hg, s, e, q⟩ := loop n 0 jN k1 p1 l1 g1 a1 wd1 hg1 s1 (by omega) (by show n < 2000000; omega) (fun b hb => by omega)
  refine ⟨k, p, l, g, a, wd, hg, s, ?_, q⟩
  unfold f_Chart_copyFrom
  rw [ev_b _ (show f_Chart_copyFrom_L42 (nI n) k2 p2 l2 g2 a2 wd2 hg2 s2 jN 0 k1 p1 l1 g1 a1 wd1 hg1 s1 = _ from e)]
  rfl
theorem s_inLow0 : ∀ b, b < 12 → ∀ p, p < 64 → f_Search_inLow (nI b) (nI p) = some (Int64.ofInt (if b < 6 then 64 ^ b * ((p : Int) - 0) else 0)) := by decide +kernel
theorem s_inHigh0 : ∀ b, b < 12 → ∀ p, p < 64 → f_Search_inHigh (nI b) (nI p) = some (Int64.ofInt (if b < 6 then 0 else 64 ^ (b - 6) * ((p : Int) - 0))) := by decide +kernel
def cutP (P : Nat → Nat) (b : Nat) : Nat → Nat := fun c => if c < b then P c else 0
theorem cutP_s (P : Nat → Nat) (b : Nat) : cutP P (b + 1) = updN (cutP P b) b (P b) ∧ cutP P b b = 0 := by
  constructor
  · funext c
    unfold cutP updN
    by_cases e : c = b
    · subst e; rw [if_pos (by omega), if_pos rfl]
    · rw [if_neg e]
      by_cases e2 : c < b
      · rw [if_pos (by omega)]; exact (if_pos e2).symm
      · rw [if_neg (by omega)]; exact (if_neg e2).symm
  · unfold cutP; rw [if_neg (by omega)]
theorem s_startL {B : Bas} {P : Nat → Nat} {kp : Nat → Int32} (h : basOk B) (hs : stC B P) (hp : chP B P kp) : ∀ (r b n : Nat), b + r = bn B → r < n → f_Search_meetStart_L7 (nI (bn B)) kp n (lN (eL (cutP P b))) (lN (eH (cutP P b))) (nI b) = some (lN (eL P), lN (eH P)) := by
  have n12 := h.2.2.2.2.1
  intro r
  induction r with
  | zero =>
    intro b n h1 h2
    obtain ⟨n, rfl⟩ : ∃ z, n = z + 1 := ⟨n - 1, by omega⟩
    have e : b = bn B := by omega
    subst e
    have c : cutP P (bn B) = P := by
      funext c
      unfold cutP
      by_cases z : c < bn B
      · rw [if_pos z]
      · rw [if_neg z, hs.2.1 c (by omega)]
    rw [f_Search_meetStart_L7, if_pos (nI_le (Nat.le_refl _) (by omega)), c]
  | succ r ih =>
    intro b n h1 h2
    obtain ⟨n, rfl⟩ : ∃ z, n = z + 1 := ⟨n - 1, by omega⟩
    have b12 : b < 12 := by omega
    obtain ⟨c1, c2⟩ := cutP_s P b
    have p64 := stC_64 h hs b
    have e1 : lN (eL (cutP P b)) + Int64.ofInt (if b < 6 then 64 ^ b * ((P b : Int) - 0) else 0) = lN (eL (cutP P (b + 1))) := by
      rw [c1, lN_ofInt, lN_ofInt, ← Int64.ofInt_add, eL_upd b12, c2]; rfl
    have e2 : lN (eH (cutP P b)) + Int64.ofInt (if b < 6 then 0 else 64 ^ (b - 6) * ((P b : Int) - 0)) = lN (eH (cutP P (b + 1))) := by
      rw [c1, lN_ofInt, lN_ofInt, ← Int64.ofInt_add, eH_upd b12, c2]; rfl
    rw [f_Search_meetStart_L7, if_neg (nI_ge (by omega) (by omega)), ev_grdN _ b12 (by decide), cl_nI b12, hp b (by omega), ev_b _ (s_inLow0 b b12 _ p64), ev_bnd, ev_grdN _ b12 (by decide), ev_b _ (s_inHigh0 b b12 _ p64), ev_bnd, ev_bnd, nI_1, e1, e2]
    exact ih (b + 1) n (by omega) (by omega)
theorem tab_nil {B : Bas} {klow khigh : Nat → Int64} {kslots kfor : Nat → Int32} (hz : ∀ s, s < 16384 → kslots s = 0) : tab B [] klow khigh kslots kfor :=
  ⟨by simp, fun P hP => by (cases hP), fun i hi => by (cases hi), fun _ => 0, fun _ => 0, fun s hs => hz s hs, fun i hi => by (cases hi), fun i hi => by (cases hi), fun s hs hn => absurd rfl hn, fun i hi => by (cases hi)⟩
theorem s_meetStart {B : Bas} {P : Nat → Nat} {kp : Nat → Int32} {klow khigh : Nat → Int64} {kslots kfor : Nat → Int32} (h : basOk B) (hs : stC B P) (hp : chP B P kp) (hz : ∀ s, s < 16384 → kslots s = 0) :
    ∃ f s a b c d, f_Search_meetStart 0 0 (nI (bn B)) kp klow khigh kslots kfor = some (f, s, a, b, c, d) ∧ exS B [P] f s a b c d := by
  obtain ⟨f, s, a, b, c, d, e, x⟩ := exS_meet (T := []) (kfound := nI ([] : List (Nat → Nat)).length) h (Or.inl ⟨rfl, rfl, tab_nil (B := B) (klow := klow) (khigh := khigh) (kfor := kfor) hz⟩) hs
  rw [meetL_out (by simp)] at x
  refine ⟨f, s, a, b, c, d, ?_, x⟩
  have st := s_startL h hs hp (bn B) 0 jN (by omega) (by have := h.2.2.2.2.1; show bn B < 2000000; omega)
  have c0 : cutP P 0 = fun _ => 0 := by funext c; unfold cutP; rw [if_neg (by omega)]
  have z1 : lN (eL (fun _ => 0)) = 0 := by
    have : eL (fun _ => 0) = 0 := rfl
    rw [this]; rfl
  have z2 : lN (eH (fun _ => 0)) = 0 := by
    have : eH (fun _ => 0) = 0 := rfl
    rw [this]; rfl
  rw [c0, z1, z2, nI_0] at st
  rw [List.length_nil, nI_0] at e
  unfold f_Search_meetStart
  rw [ev_b _ st, un2_ap, ev_b _ e, un6_ap]
