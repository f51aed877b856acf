/-! A stand in two longs; the class's layOut and listMoves. -/
def eL (P : Nat → Nat) : Nat := P 0 + 64 * P 1 + 4096 * P 2 + 262144 * P 3 + 16777216 * P 4 + 1073741824 * P 5
def eH (P : Nat → Nat) : Nat := P 6 + 64 * P 7 + 4096 * P 8 + 262144 * P 9 + 16777216 * P 10 + 1073741824 * P 11
/-- red ones' gates lie inside and on their line -/
def glA (B : Bas) (P : Nat → Nat) : Prop := ∀ b, b < bn B → bK B b = 5 → (bY B b = 0 → P b / 8 = bG B b / 8) ∧ (bY B b = 1 → P b % 8 = bG B b % 8) ∧ bG B b % 8 + xW B b ≤ bw B ∧ bG B b / 8 + xH B b ≤ bh B
/-- no place at n or behind -/
def canS (B : Bas) (P : Nat → Nat) : Prop := (∀ b, bn B ≤ b → P b = 0) ∧ glA B P
def stC (B : Bas) (P : Nat → Nat) : Prop := stOk B P ∧ canS B P
theorem stC_64 {B : Bas} {P : Nat → Nat} (h : basOk B) (hs : stC B P) (b : Nat) : P b < 64 := by
  by_cases e : b < bn B
  · exact ins_64 h hs.1.1 e
  · rw [hs.2.1 b (by omega)]; decide
theorem stC_ext {B : Bas} {P Q : Nat → Nat} (hp : canS B P) (hq : canS B Q) (h : ∀ b, b < bn B → P b = Q b) : P = Q := by
  funext b
  by_cases e : b < bn B
  · exact h b e
  · rw [hp.1 b (by omega), hq.1 b (by omega)]
theorem room_xy {B : Bas} {P : Nat → Nat} {b d : Nat} {bk : Bool} (h : basOk B) (hs : stOk B P) (hb : b < bn B) (hd : d < 4) : ∀ {k : Nat}, k ≤ room B P b d bk → ((nxtk d (P b) k % 8 : Nat) : Int) = ((P b % 8 : Nat) : Int) + k * dxI d ∧ ((nxtk d (P b) k / 8 : Nat) : Int) = ((P b / 8 : Nat) : Int) + k * dyI d
  | 0, _ => by simp [nxtk]
  | k + 1, hk => by
    obtain ⟨ih1, ih2⟩ := room_xy (bk := bk) h hs hb hd (k := k) (by omega)
    have w := room_way (show k < room B P b d bk by omega)
    obtain ⟨a1, a2, a3, a4, a5, a6, a7, a8⟩ := basOk_wh h hb
    obtain ⟨g, -⟩ := hnd_0 h hb hd w
    obtain ⟨g1, g2, g3, g4, g5⟩ := goIn_t h.2.1 h.2.2.2.1 a4 a6 hd g
    rw [nxtk_s]
    have e1 : ((k + 1 : Nat) : Int) * dxI d = k * dxI d + dxI d := by rw [Int.natCast_add, Int.add_mul]; simp
    have e2 : ((k + 1 : Nat) : Int) * dyI d = k * dyI d + dyI d := by rw [Int.natCast_add, Int.add_mul]; simp
    rw [e1, e2]
    omega
theorem room_bd {B : Bas} {P : Nat → Nat} {b d : Nat} {bk : Bool} (hr : 0 < room B P b d bk) (k5 : bK B b = 5) : (bY B b = 1 ↔ d % 2 = 0) := by
  have w := room_way hr
  unfold hnd hindA at w
  by_cases q : (bY B b = 1 ↔ d % 2 = 0)
  · exact q
  · rw [if_pos ⟨Or.inr k5, q⟩] at w; cases w
theorem dx_0 : ∀ d, d < 4 → (d % 2 = 0 → dxI d = 0) ∧ (¬ d % 2 = 0 → dyI d = 0) := by decide
theorem gl_mv {B : Bas} {P : Nat → Nat} {b d k : Nat} {bk : Bool} (h : basOk B) (hs : stC B P) (hb : b < bn B) (hd : d < 4) (hk : k ≤ room B P b d bk) : canS B (updN P b (nxtk d (P b) k)) := by
  refine ⟨fun a ha => by rw [updN_n (by omega)]; exact hs.2.1 a ha, fun a ha e => ?_⟩
  by_cases z : a = b
  · subst z
    rw [updN_s]
    obtain ⟨g1, g2, g3, g4⟩ := hs.2.2 a ha e
    by_cases k0 : k = 0
    · subst k0; exact ⟨g1, g2, g3, g4⟩
    · have q := room_bd (show 0 < room B P a d bk by omega) e
      have xy := room_xy (bk := bk) h hs.1 hb hd hk
      have dd := dx_0 d hd
      refine ⟨fun y0 => ?_, fun y1 => ?_, g3, g4⟩
      · have := dd.2 (fun c => by have := q.mpr c; omega)
        rw [this, Int.mul_zero, Int.add_zero] at xy
        rw [← g1 y0]; omega
      · have := dd.1 (q.mp y1)
        rw [this, Int.mul_zero, Int.add_zero] at xy
        rw [← g2 y1]; omega
  · rw [updN_n z]; exact hs.2.2 a ha e
theorem mvs_can {B : Bas} {P : Nat → Nat} {most c : Nat} {bk : Bool} (h : basOk B) (hs : stC B P) (hc : c ∈ mvs B P most bk) : stC B (tgt P c) := by
  refine ⟨mvs_st h hs.1 hc, ?_⟩
  obtain ⟨b, d, k, hb, hd, h1, h2, h3, e⟩ := mvs_mem.mp hc
  have := room_le (B := B) (P := P) (b := b) (d := d) (bk := bk)
  rw [e, tgt_code hd (by omega)]
  exact gl_mv (bk := bk) h hs hb hd (by omega)
theorem eL_lt {P : Nat → Nat} (h : ∀ b, P b < 64) : eL P < 2 ^ 36 := by
  have h0 := h 0; have h1 := h 1; have h2 := h 2; have h3 := h 3; have h4 := h 4; have h5 := h 5
  unfold eL; omega
theorem eH_lt {P : Nat → Nat} (h : ∀ b, P b < 64) : eH P < 2 ^ 36 := by
  have h0 := h 6; have h1 := h 7; have h2 := h 8; have h3 := h 9; have h4 := h 10; have h5 := h 11
  unfold eH; omega
theorem eL_at {P : Nat → Nat} (h : ∀ b, P b < 64) {b : Nat} (hb : b < 6) : eL P / 2 ^ (6 * b) % 64 = P b := by
  have h0 := h 0; have h1 := h 1; have h2 := h 2; have h3 := h 3; have h4 := h 4; have h5 := h 5
  have : b = 0 ∨ b = 1 ∨ b = 2 ∨ b = 3 ∨ b = 4 ∨ b = 5 := by omega
  unfold eL
  rcases this with e | e | e | e | e | e <;> subst e <;> simp <;> omega
theorem eH_at {P : Nat → Nat} (h : ∀ b, P b < 64) {b : Nat} (hb : b < 6) : eH P / 2 ^ (6 * b) % 64 = P (b + 6) := by
  have h0 := h 6; have h1 := h 7; have h2 := h 8; have h3 := h 9; have h4 := h 10; have h5 := h 11
  have : b = 0 ∨ b = 1 ∨ b = 2 ∨ b = 3 ∨ b = 4 ∨ b = 5 := by omega
  unfold eH
  rcases this with e | e | e | e | e | e <;> subst e <;> simp <;> omega
theorem e_inj {P Q : Nat → Nat} (hp : ∀ b, P b < 64) (hq : ∀ b, Q b < 64) (h1 : eL P = eL Q) (h2 : eH P = eH Q) : ∀ b, b < 12 → P b = Q b := by
  intro b hb
  by_cases e : b < 6
  · rw [← eL_at hp e, ← eL_at hq e, h1]
  · obtain ⟨c, rfl⟩ : ∃ c, b = c + 6 := ⟨b - 6, by omega⟩
    rw [← eH_at hp (show c < 6 by omega), ← eH_at hq (show c < 6 by omega), h2]
/-- six bits of a long -/
theorem six {e b : Nat} (he : e < 2 ^ 36) (hb : b < 6) : (jlushr (lN e) (6 * nI b) &&& 63).toInt32 = nI (e / 2 ^ (6 * b) % 64) := by
  have h1 : (6 : Int32) * nI b = nI (6 * b) := pk_mul 6 b
  rw [h1]
  have h2 : jlushr (lN e) (nI (6 * b)) = lN (e / 2 ^ (6 * b)) := wb_shr (by omega) (by omega)
  rw [h2]
  have h3 : lN (e / 2 ^ (6 * b)) &&& 63 = lN (e / 2 ^ (6 * b) % 2 ^ 6) := wb_mask (k := 6) (Nat.lt_of_le_of_lt (Nat.div_le_self _ _) (by omega)) (by decide)
  rw [h3, lN_i]
theorem s_layL {B : Bas} {P : Nat → Nat} {i : Nat} {klow khigh : Nat → Int64} {kk ka kw kh : Nat → Int32} {ks : Nat → Int64} (h : basOk B) (hs : stC B P) (hc : chB B kk ka kw kh ks) (hi : i < 6000) (hl : klow i = lN (eL P)) (hh : khigh i = lN (eH P)) :
    ∀ (r b n : Nat) (kt : Int64) (kp : Nat → Int32), b + r = bn B → r < n → (∀ c, c < b → kp c = nI (P c)) → (∀ f, f < 64 → tb kt f = (List.range b).any fun c => fbA B P c f) →
      ∃ kt' kp', f_Search_layOut_L20 (nI i) klow khigh (nI (bn B)) ks n (nI b) kt kp = some (kt', kp') ∧ chT B P kt' ∧ chP B P kp' := by
  intro r
  induction r with
  | zero =>
    intro b n kt kp h1 h2 h3 h4
    obtain ⟨n, rfl⟩ : ∃ z, n = z + 1 := ⟨n - 1, by omega⟩
    have e : b = bn B := by omega
    subst e
    refine ⟨kt, kp, ?_, h4, h3⟩
    rw [f_Search_layOut_L20, if_pos (nI_le (Nat.le_refl _) (by have := h.2.2.2.2.1; omega))]
  | succ r ih =>
    intro b n kt kp h1 h2 h3 h4
    obtain ⟨n, rfl⟩ : ∃ z, n = z + 1 := ⟨n - 1, by omega⟩
    have hb : b < bn B := by omega
    have p64 := stC_64 h hs
    obtain ⟨a1, a2, a3, a4, a5, a6, a7, a8⟩ := basOk_wh h hb
    have J : ∀ x : Int64, (x &&& 63).toInt32 = nI (P b) → ∃ kt' kp', f_Search_layOut_J62 (f_Search_layOut_L20 (nI i) klow khigh (nI (bn B)) ks n) (nI i) (nI b) x kt kp ks = some (kt', kp') ∧ chT B P kt' ∧ chP B P kp' := by
      intro x hx
      have i1 := hs.1.1 b hb
      have fo := s_fieldsOf (p := P b) (kp := upd kp b (nI (P b))) a1 pk_us (hc b hb).2.2.2.2
      obtain ⟨kt', kp', e, q1, q2⟩ := ih (b + 1) n (kt ||| jlshl (shp (xW B b) (xH B b)) (nI (P b))) (upd kp b (nI (P b))) (by omega) (by omega) (by
        intro c hcb
        by_cases z : c = b
        · subst z; exact pk_us
        · rw [pk_un z]; exact h3 c (by omega)) (by
        intro f hf
        rw [tb_or, h4 f hf, shp_at (p64 b) a5 a7 (by have := h.2.1; omega) hf, List.range_succ, List.any_append]
        simp [fbA])
      refine ⟨kt', kp', ?_, q1, q2⟩
      unfold f_Search_layOut_J62
      rw [ev_bnd, ev_grdN _ a1 (by decide), cl_nI a1, hx, ev_b _ fo, ev_bnd, ev_bnd, nI_1, e]
    rw [f_Search_layOut_L20, if_neg (nI_ge hb (by have := h.2.2.2.2.1; omega)), ev_grdN _ hi (by decide), ev_grdN _ hi (by decide), nI_clamp (by omega), hl, hh]
    by_cases z : b < 6
    · rw [if_neg (show ¬ (6 : Int32) ≤ nI b from nI_ge (b := 6) z (by decide))]
      exact J _ (by rw [six (eL_lt p64) z, eL_at p64 z])
    · rw [if_pos (show (6 : Int32) ≤ nI b from nI_le (a := 6) (by omega) (by omega))]
      refine J _ ?_
      obtain ⟨c, rfl⟩ : ∃ c, b = c + 6 := ⟨b - 6, by omega⟩
      have e6 : nI (c + 6) - 6 = nI c := pk_sub (a := c + 6) (b := 6) (by omega)
      rw [e6, six (eH_lt p64) (show c < 6 by omega), eH_at p64 (show c < 6 by omega)]
theorem s_layOut {B : Bas} {P : Nat → Nat} {i N : Nat} {klow khigh : Nat → Int64} {kk ka kw kh : Nat → Int32} {ks : Nat → Int64} (h : basOk B) (hs : stC B P) (hc : chB B kk ka kw kh ks) (hi : i < N) (hN : N ≤ 6000) (hl : klow i = lN (eL P)) (hh : khigh i = lN (eH P)) (kt : Int64) (kp : Nat → Int32) :
    ∃ kt' kp', f_Search_layOut (nI i) (nI N) klow khigh (nI (bn B)) kt kp ks = some (kt', kp') ∧ chT B P kt' ∧ chP B P kp' := by
  obtain ⟨kt', kp', e, q1, q2⟩ := s_layL h hs hc (show i < 6000 by omega) hl hh (bn B) 0 jN 0 kp (by omega) (by have := h.2.2.2.2.1; show bn B < 2000000; omega) (fun c hc => by omega) (fun f hf => by rw [tb_0]; rfl)
  refine ⟨kt', kp', ?_, q1, q2⟩
  unfold f_Search_layOut
  rw [if_neg (nI_pos (by omega)), if_pos (nI_lt hi (by omega)), ev_b _ (show f_Search_layOut_L20 (nI i) klow khigh (nI (bn B)) ks jN 0 0 kp = _ from e)]
  rfl
/-! listMoves: the moves are written down from 'many' on. -/
/-- l stands in km from m on -/
def wrt (km : Nat → Int32) (l : List Nat) : Prop := ∀ i, (hi : i < l.length) → km i = nI l[i]
theorem wrt_app {km : Nat → Int32} {l : List Nat} {c : Nat} (h : wrt km l) : wrt (upd km l.length (nI c)) (l ++ [c]) := by
  intro i hi
  rw [List.length_append, List.length_singleton] at hi
  by_cases e : i = l.length
  · subst e
    rw [pk_us]
    simp
  · rw [pk_un e, List.getElem_append_left (by omega)]
    exact h i (by omega)
theorem s_lmL57 {v2 v3 : Int32} {b d st : Nat} (hb : b < 12) (hd : d < 4) (hst : st ≤ 7) : ∀ (r k n : Nat) (km : Nat → Int32) (l : List Nat), k + r = st → r < n → l.length + r ≤ 336 → wrt km l →
    ∃ km', f_Search_listMoves_L57 v2 v3 (nI b) (nI d) (nI st) n (nI l.length) (nI (k + 1)) km = some (nI (l.length + r), km') ∧ wrt km' (l ++ (List.range' k r).map fun k => 32 * b + 8 * d + (k + 1)) := by
  intro r
  induction r with
  | zero =>
    intro k n km l h1 h2 h3 h4
    obtain ⟨n, rfl⟩ : ∃ z, n = z + 1 := ⟨n - 1, by omega⟩
    refine ⟨km, ?_, by simpa using h4⟩
    rw [f_Search_listMoves_L57, if_pos (nI_lt (by omega) (by omega))]
    rfl
  | succ r ih =>
    intro k n km l h1 h2 h3 h4
    obtain ⟨n, rfl⟩ : ∃ z, n = z + 1 := ⟨n - 1, by omega⟩
    obtain ⟨km', e, q⟩ := ih (k + 1) n (upd km l.length (nI (32 * b + 8 * d + (k + 1)))) (l ++ [32 * b + 8 * d + (k + 1)]) (by omega) (by omega) (by rw [List.length_append, List.length_singleton]; omega) (wrt_app h4)
    refine ⟨km', ?_, ?_⟩
    · rw [f_Search_listMoves_L57, if_neg (nI_nlt (by omega) (by omega)), ev_b _ (s_moveOf b hb d hd (k + 1) (by omega)), ev_grdN _ (show l.length < 336 by omega) (by decide), ev_bnd, ev_bnd, nI_1, nI_1, nI_clamp (by omega)]
      rw [List.length_append, List.length_singleton] at e
      rw [e]
      rw [show l.length + 1 + r = l.length + (r + 1) by omega]
    · rw [List.range'_succ, List.map_cons]
      simpa using q
theorem min_sel (a b : Nat) (ha : a < 2 ^ 31) (hb : b < 2 ^ 31) : (if nI a < nI b then nI a else nI b) = nI (min b a) := by
  by_cases h : a < b
  · rw [if_pos (nI_lt h hb), Nat.min_eq_right (by omega)]
  · rw [if_neg (nI_nlt (by omega) ha), Nat.min_eq_left (by omega)]
theorem s_lmL30 {B : Bas} {P : Nat → Nat} {b most : Nat} {bk : Bool} {kwl kt : Int64} {kk ka kw kh kp : Nat → Int32} {ks : Nat → Int64} (h : basOk B) (hs : stOk B P) (hc : chB B kk ka kw kh ks) (hp : chP B P kp) (ht : chT B P kt) (hwl : chW B kwl) (hb : b < bn B) (hm : most < 100) :
    ∀ (r d n : Nat) (km : Nat → Int32) (l : List Nat), d + r = 4 → r < n → l.length + 7 * r ≤ 336 → wrt km l →
      ∃ km', f_Search_listMoves_L30 (nI most) (bI bk) (nI b) (nI (bw B)) (nI (bh B)) kwl kt kk kp ka kw kh ks n (nI l.length) (nI d) km = some (nI (l ++ (List.range' d r).flatMap (mvD B P most bk b)).length, km') ∧ wrt km' (l ++ (List.range' d r).flatMap (mvD B P most bk b)) := by
  obtain ⟨a1, -⟩ := basOk_wh h hb
  intro r
  induction r with
  | zero =>
    intro d n km l h1 h2 h3 h4
    obtain ⟨n, rfl⟩ : ∃ z, n = z + 1 := ⟨n - 1, by omega⟩
    refine ⟨km, ?_, by simpa using h4⟩
    rw [f_Search_listMoves_L30, if_pos (show (4 : Int32) ≤ nI d from nI_le (a := 4) (by omega) (by omega))]
    simp
  | succ r ih =>
    intro d n km l h1 h2 h3 h4
    obtain ⟨n, rfl⟩ : ∃ z, n = z + 1 := ⟨n - 1, by omega⟩
    have hr := room_le (B := B) (P := P) (b := b) (d := d) (bk := bk)
    obtain ⟨km1, e1, w1⟩ := s_lmL57 (v2 := nI most) (v3 := bI bk) (d := d) (st := min most (room B P b d bk)) a1 (by omega) (by omega) (min most (room B P b d bk)) 0 jN km l (by omega) (by show _ < 2000000; omega) (by omega) h4
    have len : (l ++ mvD B P most bk b d).length = l.length + min most (room B P b d bk) := by simp [mvD]
    have w1' : wrt km1 (l ++ mvD B P most bk b d) := by
      have : (List.range' 0 (min most (room B P b d bk))) = List.range (min most (room B P b d bk)) := List.range_eq_range'.symm
      rw [this] at w1
      exact w1
    obtain ⟨km', e, q⟩ := ih (d + 1) n km1 (l ++ mvD B P most bk b d) (by omega) (by omega) (by omega) w1'
    refine ⟨km', ?_, ?_⟩
    · rw [f_Search_listMoves_L30, if_neg (show ¬ (4 : Int32) ≤ nI d from nI_ge (b := 4) (by omega) (by decide)), ev_b _ (s_stepsFrom h hs hc hp ht hwl hb (by omega)), ev_bnd, min_sel _ _ (by omega) (by omega), ev_b _ (show f_Search_listMoves_L57 (nI most) (bI bk) (nI b) (nI d) (nI (min most (room B P b d bk))) jN (nI l.length) 1 km = _ from e1)]
      show f_Search_listMoves_L30 _ _ _ _ _ _ _ _ _ _ _ _ _ n _ (nI d + 1) km1 = _
      rw [nI_1, ← len, e]
      simp [List.range'_succ]
    · rw [List.range'_succ, List.flatMap_cons, ← List.append_assoc]
      exact q
theorem mvB_len {B : Bas} {P : Nat → Nat} {most b : Nat} {bk : Bool} : ((List.range' 0 4).flatMap (mvD B P most bk b)).length ≤ 28 := by
  have h : ∀ d, (mvD B P most bk b d).length ≤ 7 := by
    intro d
    have := room_le (B := B) (P := P) (b := b) (d := d) (bk := bk)
    simp [mvD]; omega
  have h0 := h 0; have h1 := h 1; have h2 := h 2; have h3 := h 3
  simp [List.range', List.flatMap_cons]
  omega
theorem s_lmL15 {B : Bas} {P : Nat → Nat} {most : Nat} {bk : Bool} {kwl kt : Int64} {kk ka kw kh kp : Nat → Int32} {ks : Nat → Int64} (h : basOk B) (hs : stOk B P) (hc : chB B kk ka kw kh ks) (hp : chP B P kp) (ht : chT B P kt) (hwl : chW B kwl) (hm : most < 100) :
    ∀ (r b n : Nat) (km : Nat → Int32) (l : List Nat), b + r = bn B → r < n → l.length ≤ 28 * b → wrt km l →
      ∃ km', f_Search_listMoves_L15 (nI most) (bI bk) (nI (bw B)) (nI (bh B)) (nI (bn B)) kwl kt kk kp ka kw kh ks n (nI l.length) (nI b) km = some (nI (l ++ (List.range' b r).flatMap (mvB B P most bk)).length, km') ∧ wrt km' (l ++ (List.range' b r).flatMap (mvB B P most bk)) ∧ (l ++ (List.range' b r).flatMap (mvB B P most bk)).length ≤ 336 := by
  have n12 := h.2.2.2.2.1
  intro r
  induction r with
  | zero =>
    intro b n km l h1 h2 h3 h4
    obtain ⟨n, rfl⟩ : ∃ z, n = z + 1 := ⟨n - 1, by omega⟩
    refine ⟨km, ?_, by simpa using h4, by simp; omega⟩
    rw [f_Search_listMoves_L15, if_pos (nI_le (by omega) (by omega))]
    simp
  | succ r ih =>
    intro b n km l h1 h2 h3 h4
    obtain ⟨n, rfl⟩ : ∃ z, n = z + 1 := ⟨n - 1, by omega⟩
    obtain ⟨km1, e1, w1⟩ := s_lmL30 (bk := bk) h hs hc hp ht hwl (show b < bn B by omega) hm 4 0 jN km l (by omega) (by show 4 < 2000000; omega) (by omega) h4
    have mb : (List.range' 0 4).flatMap (mvD B P most bk b) = mvB B P most bk b := by
      unfold mvB; rw [List.range_eq_range']
    have ml := mvB_len (B := B) (P := P) (most := most) (b := b) (bk := bk)
    rw [mb] at e1 w1 ml
    obtain ⟨km', e, q, q2⟩ := ih (b + 1) n km1 (l ++ mvB B P most bk b) (by omega) (by omega) (by rw [List.length_append]; omega) w1
    refine ⟨km', ?_, ?_, ?_⟩
    · rw [f_Search_listMoves_L15, if_neg (nI_ge (by omega) (by omega)), ev_b _ (show f_Search_listMoves_L30 (nI most) (bI bk) (nI b) (nI (bw B)) (nI (bh B)) kwl kt kk kp ka kw kh ks jN (nI l.length) 0 km = _ from e1)]
      show f_Search_listMoves_L15 _ _ _ _ _ _ _ _ _ _ _ _ _ n _ (nI b + 1) km1 = _
      rw [nI_1, e]
      simp [List.range'_succ]
    · rw [List.range'_succ, List.flatMap_cons, ← List.append_assoc]
      exact q
    · rw [List.range'_succ, List.flatMap_cons, ← List.append_assoc]
      exact q2
theorem s_listMoves {B : Bas} {P : Nat → Nat} {i N most : Nat} {bk : Bool} {klow khigh : Nat → Int64} {kwl : Int64} {kk ka kw kh : Nat → Int32} {ks : Nat → Int64} (h : basOk B) (hs : stC B P) (hc : chB B kk ka kw kh ks) (hwl : chW B kwl) (hi : i < N) (hN : N ≤ 6000) (hl : klow i = lN (eL P)) (hh : khigh i = lN (eH P)) (hm : most < 100) (kt : Int64) (kp km : Nat → Int32) :
    ∃ kt' kp' km', f_Search_listMoves (nI i) (nI most) (bI bk) (nI N) (nI (bw B)) (nI (bh B)) (nI (bn B)) kwl kt kk kp ka kw kh ks klow khigh km = some (nI (mvs B P most bk).length, kt', kp', km') ∧ chT B P kt' ∧ chP B P kp' ∧ wrt km' (mvs B P most bk) ∧ (mvs B P most bk).length ≤ 336 := by
  obtain ⟨kt', kp', e, q1, q2⟩ := s_layOut h hs hc hi hN hl hh kt kp
  obtain ⟨km', e2, w, l⟩ := s_lmL15 (bk := bk) h hs.1 hc q2 q1 hwl hm (bn B) 0 jN km [] (by omega) (by have := h.2.2.2.2.1; show bn B < 2000000; omega) (by simp) (fun i hi => by cases hi)
  have mb : [] ++ (List.range' 0 (bn B)).flatMap (mvB B P most bk) = mvs B P most bk := by
    unfold mvs; rw [List.range_eq_range', List.nil_append]
  rw [mb] at e2 w l
  refine ⟨kt', kp', km', ?_, q1, q2, w, l⟩
  unfold f_Search_listMoves
  rw [ev_b _ e]
  show jb (f_Search_listMoves_L15 (nI most) (bI bk) (nI (bw B)) (nI (bh B)) (nI (bn B)) kwl kt' kk kp' ka kw kh ks jN 0 0 km) _ = _
  rw [ev_b _ (show f_Search_listMoves_L15 (nI most) (bI bk) (nI (bw B)) (nI (bh B)) (nI (bn B)) kwl kt' kk kp' ka kw kh ks jN 0 0 km = _ from e2)]
  rfl
