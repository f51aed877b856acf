/-! goesOn of the reference. -/
def xS (B : Bas) (L : List (Nat → Nat)) (A : List (Nat × Nat)) (kpl khd kch kdp kpr kbb kby kbs ked keb : Nat → Int32) : Prop := rTab B L kpl khd kch ∧ rX L A kdp kpr kbb kby kbs ked keb
def cdR (b d k r : Nat) : List Nat := (List.range' k r).map fun j => 32 * b + 8 * d + (j + 1)
def prs (s : Nat) (cs : List Nat) : List (Nat × Nat) := cs.map fun c => (s, c)
theorem cdR_s {b d k r : Nat} : cdR b d k (r + 1) = (32 * b + 8 * d + (k + 1)) :: cdR b d (k + 1) r := by
  unfold cdR
  rw [List.range'_succ, List.map_cons]
theorem lexP_up {p : Nat × Nat} {s c : Nat} (h : lexP p (s, c)) : lexP p (s, c + 1) := by
  unfold lexP at *
  simp only at *
  omega
theorem m_goL14 {B : Bas} {most s b d : Nat} {P : Nat → Nat} {v5 : Int32} {kwl kk ks ky : Nat → Int32} (h : basOk B) (hr : rfB B kk ks ky) (hwl : rfW B kwl) (hb : b < bn B) (hd : d < 4) (hP : stC B P) (hm : most ≤ 7) :
    ∀ (r k n : Nat) (L : List (Nat → Nat)) (A : List (Nat × Nat)) (kpl khd kch kdp kpr kbb kby kbs ked keb kwho kh : Nat → Int32), k + r = min most (room B P b d false) → r < n → s < L.length → gt L s = P → L.length ≤ 6000 → A.length + r ≤ 1010000 → (∀ p, p ∈ A → lexP p (s, 32 * b + 8 * d + (k + 1))) →
      xS B L A kpl khd kch kdp kpr kbb kby kbs ked keb → rfO B (updN P b (nxtk d (P b) k)) kwho → chP B (updN P b (nxtk d (P b) k)) kh →
      ∃ (well : Bool) (st ed : Int32) (kpl' khd' kch' kdp' kpr' kbb' kby' kbs' ked' keb' kwho' kh' : Nat → Int32) (k' : Nat), f_BargeBasinModel_goesOn_L14 (nI s) (nI b) (nI d) (nI most) v5 (nI (bw B)) (nI (bh B)) (nI (bn B)) kwl kk ks ky n 1 (nI k) (nI L.length) (nI A.length) kpl khd kch kdp kpr kbb kby kbs ked keb kwho kh = some (bI well, st, ed, kpl', khd', kch', kdp', kpr', kbb', kby', kbs', ked', keb', kwho', kh') ∧
        k' ≤ room B P b d false ∧ rfO B (updN P b (nxtk d (P b) k')) kwho' ∧ chP B (updN P b (nxtk d (P b) k')) kh' ∧
        (well = true → (((cdR b d k r).map (tgt P)).foldl meetL L).length ≤ 6000 ∧ st = nI (((cdR b d k r).map (tgt P)).foldl meetL L).length ∧ ed = nI (A ++ prs s (cdR b d k r)).length ∧ xS B (((cdR b d k r).map (tgt P)).foldl meetL L) (A ++ prs s (cdR b d k r)) kpl' khd' kch' kdp' kpr' kbb' kby' kbs' ked' keb') ∧
        (well = false → 6000 < (((cdR b d k r).map (tgt P)).foldl meetL L).length) := by
  have r7 := room_le (B := B) (P := P) (b := b) (d := d) (bk := false)
  obtain ⟨b12, -⟩ := basOk_wh h hb
  intro r
  induction r with
  | zero =>
    intro k n L A kpl khd kch kdp kpr kbb kby kbs ked keb kwho kh h1 h2 h3 h4 h5 h6 h7 h8 h9 h10
    obtain ⟨n, rfl⟩ : ∃ z, n = z + 1 := ⟨n - 1, by omega⟩
    refine ⟨true, nI L.length, nI A.length, kpl, khd, kch, kdp, kpr, kbb, kby, kbs, ked, keb, kwho, kh, k, ?_, by omega, h9, h10, ?_, fun z => by cases z⟩
    · rw [f_BargeBasinModel_goesOn_L14, if_neg (show ¬ (1 : Int32) = 0 by decide)]
      by_cases e : most ≤ k
      · rw [if_pos (nI_le e (by omega))]; rfl
      · have hk : k = room B P b d false := by omega
        have hs := (room_st (bk := false) h hP.1 hb hd (k := k) (by omega)).1
        have ne : hnd B (updN P b (nxtk d (P b) k)) b d (updN P b (nxtk d (P b) k) b) false ≠ 0 := by
          rw [hnd_upd, updN_s]
          rcases roomA_end (hn := fun q => hnd B P b d q false) (d := d) (m := 7) (q := P b) with z | z
          · have : room B P b d false = 7 := z
            omega
          · rw [hk]; exact z
        have lt := hnd_lt (B := B) (P := updN P b (nxtk d (P b) k)) (b := b) (d := d) (q := updN P b (nxtk d (P b) k) b) (bk := false)
        rw [if_neg (nI_ge (by omega) (by omega)), ev_b _ (m_hnd h hs hr hwl h9 h10 hb hd), if_neg (nI_ne0 (by omega) (by omega))]; rfl
    · intro _
      simp only [cdR, prs, List.range'_zero, List.map_nil, List.foldl_nil, List.append_nil]
      exact ⟨h5, trivial, trivial, h8⟩
  | succ r ih =>
    intro k n L A kpl khd kch kdp kpr kbb kby kbs ked keb kwho kh h1 h2 h3 h4 h5 h6 h7 h8 h9 h10
    obtain ⟨n, rfl⟩ : ∃ z, n = z + 1 := ⟨n - 1, by omega⟩
    have hs := (room_st (bk := false) h hP.1 hb hd (k := k) (by omega)).1
    have w0 : hnd B (updN P b (nxtk d (P b) k)) b d (updN P b (nxtk d (P b) k) b) false = 0 := by
      rw [hnd_upd, updN_s]
      exact room_way (by omega)
    obtain ⟨kwho1, e1, o1⟩ := m_step h hs hr h9 h10 hb hd w0
    have pos : updN (updN P b (nxtk d (P b) k)) b (nxt d (updN P b (nxtk d (P b) k) b)) = updN P b (nxtk d (P b) (k + 1)) := by rw [updN_two, updN_s, nxtk_s]
    rw [pos] at o1
    have c1 : chP B (updN P b (nxtk d (P b) (k + 1))) (upd kh b (nI (nxt d (updN P b (nxtk d (P b) k) b)))) := by
      rw [← pos]; exact chP_upd h10
    have tg : tgt P (32 * b + 8 * d + (k + 1)) = updN P b (nxtk d (P b) (k + 1)) := tgt_code hd (by omega)
    have mc := mv_code (b := b) (d := d) (k := k + 1) hd (by omega)
    have sv : stC B (updN P b (nxtk d (P b) (k + 1))) := by
      exact ⟨(room_st (bk := false) h hP.1 hb hd (k := k + 1) (by omega)).1, gl_mv (bk := false) h hP hb hd (by omega)⟩
    have lx : ∀ p, p ∈ A ++ [(s, 32 * b + 8 * d + (k + 1))] → lexP p (s, 32 * b + 8 * d + (k + 1 + 1)) := by
      intro p hp
      rcases List.mem_append.mp hp with z | z
      · exact lexP_up (h7 p z)
      · rw [List.mem_singleton.mp z]; exact Or.inr ⟨rfl, by show _ < _; omega⟩
    have pre : ∀ (X : Option (Int32 × Int32 × Int32 × (Nat → Int32) × (Nat → Int32) × (Nat → Int32) × (Nat → Int32) × (Nat → Int32) × (Nat → Int32) × (Nat → Int32) × (Nat → Int32) × (Nat → Int32) × (Nat → Int32) × (Nat → Int32) × (Nat → Int32))),
        (jb (f_BargeBasinModel_numberOf (nI (bn B)) (nI L.length) kpl khd kch (upd kh b (nI (nxt d (updN P b (nxtk d (P b) k) b))))) (un5 (fun r_14 k_stands_15 k_places_16 k_heads_17 k_chain_18 => if k_stands_15 ≤ nI L.length then f_BargeBasinModel_goesOn_L14 (nI s) (nI b) (nI d) (nI most) v5 (nI (bw B)) (nI (bh B)) (nI (bn B)) kwl kk ks ky n 1 (nI (k + 1)) k_stands_15 (nI (A.length + 1)) k_places_16 k_heads_17 k_chain_18 kdp kpr kbb kby kbs (upd ked A.length r_14) (upd keb A.length (nI b)) kwho1 (upd kh b (nI (nxt d (updN P b (nxtk d (P b) k) b)))) else if ((6000 : Int32)) < k_stands_15 then f_BargeBasinModel_goesOn_J112 (f_BargeBasinModel_goesOn_L14 (nI s) (nI b) (nI d) (nI most) v5 (nI (bw B)) (nI (bh B)) (nI (bn B)) kwl kk ks ky n) (nI s) (nI b) (nI d) (nI most) v5 (nI (k + 1)) r_14 ((0 : Int32)) k_stands_15 (nI (A.length + 1)) k_places_16 k_heads_17 k_chain_18 kdp kpr kbb kby kbs (upd ked A.length r_14) (upd keb A.length (nI b)) kwho1 (upd kh b (nI (nxt d (updN P b (nxtk d (P b) k) b)))) else f_BargeBasinModel_goesOn_J112 (f_BargeBasinModel_goesOn_L14 (nI s) (nI b) (nI d) (nI most) v5 (nI (bw B)) (nI (bh B)) (nI (bn B)) kwl kk ks ky n) (nI s) (nI b) (nI d) (nI most) v5 (nI (k + 1)) r_14 ((1 : Int32)) k_stands_15 (nI (A.length + 1)) k_places_16 k_heads_17 k_chain_18 kdp kpr kbb kby kbs (upd ked A.length r_14) (upd keb A.length (nI b)) kwho1 (upd kh b (nI (nxt d (updN P b (nxtk d (P b) k) b))))))) = X →
        f_BargeBasinModel_goesOn_L14 (nI s) (nI b) (nI d) (nI most) v5 (nI (bw B)) (nI (bh B)) (nI (bn B)) kwl kk ks ky (n + 1) 1 (nI k) (nI L.length) (nI A.length) kpl khd kch kdp kpr kbb kby kbs ked keb kwho kh = X := by
      intro X hX
      rw [f_BargeBasinModel_goesOn_L14, if_neg (show ¬ (1 : Int32) = 0 by decide), if_neg (nI_ge (show k < most by omega) (by omega)), ev_b _ (m_hnd h hs hr hwl h9 h10 hb hd), w0, nI_0, if_pos rfl, ev_b _ e1, un2_ap, ev_bnd, nI_1]
      rw [← hX]
      simp only [ev_grdN _ (show A.length < 1010000 by omega) (show 1010000 < 2 ^ 31 by decide), ev_bnd, nI_1, nI_clamp (show A.length < 2 ^ 31 by omega), byte64 b (by omega)]
    obtain ⟨t1, t2⟩ := id h8
    rw [cdR_s]
    simp only [List.map_cons, List.foldl_cons, prs]
    rw [tg]
    rcases m_numberOf h t1 h5 c1 sv with ⟨i, hi, ei, en⟩ | ⟨nm, kpl1, khd1, kch1, en, t1'⟩
    · have x1 := rX_old (c := 32 * b + 8 * d + (k + 1)) t2 h3 h7 hi (by rw [gt_at hi, ei, h4, tg])
      rw [mc.1] at x1
      have mm : meetL L (updN P b (nxtk d (P b) (k + 1))) = L := meetL_in (by rw [← ei]; exact List.getElem_mem hi)
      obtain ⟨well, st, ed, a1, a2, a3, a4, a5, a6, a7, a8, a9, a10, a11, a12, k', q1, q2, q3, q4, q5, q6⟩ := ih (k + 1) n L (A ++ [(s, 32 * b + 8 * d + (k + 1))]) kpl khd kch kdp kpr kbb kby kbs (upd ked A.length (nI i)) (upd keb A.length (nI b)) kwho1 _ (by omega) (by omega) h3 h4 h5 (by rw [List.length_append, List.length_singleton]; omega) lx ⟨t1, x1⟩ o1 c1
      refine ⟨well, st, ed, a1, a2, a3, a4, a5, a6, a7, a8, a9, a10, a11, a12, k', ?_, q2, q3, q4, ?_, ?_⟩
      · apply pre
        rw [List.length_append, List.length_singleton] at q1
        rw [ev_b _ en, un5_ap, if_pos (nI_le (Nat.le_refl _) (by omega)), q1]
      · intro z
        obtain ⟨y1, y2, y3, y4⟩ := q5 z
        rw [mm]
        rw [List.append_assoc] at y3 y4
        exact ⟨y1, y2, y3, y4⟩
      · intro z
        rw [mm]; exact q6 z
    · have mm : meetL L (updN P b (nxtk d (P b) (k + 1))) = L ++ [updN P b (nxtk d (P b) (k + 1))] := meetL_out nm
      obtain ⟨-, -, par, mno, dep, -, dd, -⟩ := id t2
      have x1 := rX_new (c := 32 * b + 8 * d + (k + 1)) (v := updN P b (nxtk d (P b) (k + 1))) t2 h3 h7 (by rw [h4, tg]) (dd s h3).1 (by omega)
      rw [mc.1, mc.2.1, mc.2.2] at x1
      have len : (L ++ [updN P b (nxtk d (P b) (k + 1))]).length = L.length + 1 := by simp
      have J : ∀ z : Int32, f_BargeBasinModel_goesOn_J112 (f_BargeBasinModel_goesOn_L14 (nI s) (nI b) (nI d) (nI most) v5 (nI (bw B)) (nI (bh B)) (nI (bn B)) kwl kk ks ky n) (nI s) (nI b) (nI d) (nI most) v5 (nI (k + 1)) (nI L.length) z (nI (L.length + 1)) (nI (A.length + 1)) kpl1 khd1 kch1 kdp kpr kbb kby kbs (upd ked A.length (nI L.length)) (upd keb A.length (nI b)) kwho1 (upd kh b (nI (nxt d (updN P b (nxtk d (P b) k) b)))) =
          f_BargeBasinModel_goesOn_L14 (nI s) (nI b) (nI d) (nI most) v5 (nI (bw B)) (nI (bh B)) (nI (bn B)) kwl kk ks ky n z (nI (k + 1)) (nI (L.length + 1)) (nI (A.length + 1)) kpl1 khd1 kch1 (upd kdp L.length (kdp s + 1)) (upd kpr L.length (nI s)) (upd kbb L.length (nI b)) (upd kby L.length (nI d)) (upd kbs L.length (nI (k + 1))) (upd ked A.length (nI L.length)) (upd keb A.length (nI b)) kwho1 (upd kh b (nI (nxt d (updN P b (nxtk d (P b) k) b)))) := by
        intro z
        unfold f_BargeBasinModel_goesOn_J112
        simp only [ev_grdN _ (show s < 6001 by omega) (show 6001 < 2 ^ 31 by decide), ev_grdN _ (show L.length < 6001 by omega) (show 6001 < 2 ^ 31 by decide), ev_bnd, nI_clamp (show s < 2 ^ 31 by omega), nI_clamp (show L.length < 2 ^ 31 by omega)]
      by_cases c6 : L.length = 6000
      · refine ⟨false, nI (L.length + 1), nI (A.length + 1), kpl1, khd1, kch1, upd kdp L.length (kdp s + 1), upd kpr L.length (nI s), upd kbb L.length (nI b), upd kby L.length (nI d), upd kbs L.length (nI (k + 1)), upd ked A.length (nI L.length), upd keb A.length (nI b), kwho1, upd kh b (nI (nxt d (updN P b (nxtk d (P b) k) b))), k + 1, ?_, by omega, o1, c1, fun z => by (cases z), fun _ => ?_⟩
        · apply pre
          rw [ev_b _ en, un5_ap, len, if_neg (nI_ge (by omega) (by omega)), if_pos (show (6000 : Int32) < nI (L.length + 1) from nI_lt (a := 6000) (by omega) (by omega)), J]
          obtain ⟨m, rfl⟩ : ∃ m, n = m + 1 := ⟨n - 1, by omega⟩
          rw [f_BargeBasinModel_goesOn_L14, if_pos rfl]; rfl
        · rw [mm]
          have := foldL_len ((cdR b d (k + 1) r).map (tgt P)) (L ++ [updN P b (nxtk d (P b) (k + 1))])
          rw [len] at this
          omega
      · obtain ⟨well, st, ed, a1, a2, a3, a4, a5, a6, a7, a8, a9, a10, a11, a12, k', q1, q2, q3, q4, q5, q6⟩ := ih (k + 1) n (L ++ [updN P b (nxtk d (P b) (k + 1))]) (A ++ [(s, 32 * b + 8 * d + (k + 1))]) kpl1 khd1 kch1 _ _ _ _ _ _ _ kwho1 _ (by omega) (by omega) (by rw [len]; omega) (by rw [gt_app h3]; exact h4) (by rw [len]; omega) (by rw [List.length_append, List.length_singleton]; omega) lx ⟨t1', x1⟩ o1 c1
        refine ⟨well, st, ed, a1, a2, a3, a4, a5, a6, a7, a8, a9, a10, a11, a12, k', ?_, q2, q3, q4, ?_, ?_⟩
        · apply pre
          rw [len, List.length_append, List.length_singleton] at q1
          rw [ev_b _ en, un5_ap, len, if_neg (nI_ge (by omega) (by omega)), if_neg (show ¬ (6000 : Int32) < nI (L.length + 1) from nI_nlt (a := 6000) (by omega) (by decide)), J, q1]
        · intro z
          obtain ⟨y1, y2, y3, y4⟩ := q5 z
          rw [mm]
          rw [List.append_assoc] at y3 y4
          exact ⟨y1, y2, y3, y4⟩
        · intro z
          rw [mm]; exact q6 z
theorem m_goesOn {B : Bas} {most s b d : Nat} {P : Nat → Nat} {L : List (Nat → Nat)} {A : List (Nat × Nat)} {kwl kk ks ky kpl khd kch kdp kpr kbb kby kbs ked keb kwho kh : Nat → Int32} (h : basOk B) (hr : rfB B kk ks ky) (hwl : rfW B kwl) (hb : b < bn B) (hd : d < 4) (hP : stC B P) (hm : most ≤ 7)
    (h3 : s < L.length) (h4 : gt L s = P) (h5 : L.length ≤ 6000) (h6 : A.length + (mvD B P most false b d).length ≤ 1010000) (h7 : ∀ p, p ∈ A → lexP p (s, 32 * b + 8 * d + 1)) (h8 : xS B L A kpl khd kch kdp kpr kbb kby kbs ked keb) (h9 : rfO B P kwho) (h10 : chP B P kh) :
    ∃ (well : Bool) (st ed : Int32) (kpl' khd' kch' kdp' kpr' kbb' kby' kbs' ked' keb' kwho' kh' : Nat → Int32), f_BargeBasinModel_goesOn (nI s) (nI b) (nI d) (nI most) (nI (bw B)) (nI (bh B)) (nI (bn B)) (nI L.length) (nI A.length) kwl kk ks ky kpl khd kch kdp kpr kbb kby kbs ked keb kwho kh = some (bI well, st, ed, kpl', khd', kch', kdp', kpr', kbb', kby', kbs', ked', keb', kwho', kh') ∧
      rfO B P kwho' ∧ chP B P kh' ∧
      (well = true → (((mvD B P most false b d).map (tgt P)).foldl meetL L).length ≤ 6000 ∧ st = nI (((mvD B P most false b d).map (tgt P)).foldl meetL L).length ∧ ed = nI (A ++ prs s (mvD B P most false b d)).length ∧ xS B (((mvD B P most false b d).map (tgt P)).foldl meetL L) (A ++ prs s (mvD B P most false b d)) kpl' khd' kch' kdp' kpr' kbb' kby' kbs' ked' keb') ∧
      (well = false → 6000 < (((mvD B P most false b d).map (tgt P)).foldl meetL L).length) := by
  obtain ⟨b12, -⟩ := basOk_wh h hb
  have cd : cdR b d 0 (min most (room B P b d false)) = mvD B P most false b d := by
    unfold cdR mvD
    rw [← List.range_eq_range']
  have ml : (mvD B P most false b d).length = min most (room B P b d false) := by simp [mvD]
  have z0 : updN P b (nxtk d (P b) 0) = P := updN_self
  obtain ⟨well, st, ed, a1, a2, a3, a4, a5, a6, a7, a8, a9, a10, a11, a12, k', q1, q2, q3, q4, q5, q6⟩ := m_goL14 (s := s) (v5 := nI (P b)) h hr hwl hb hd hP hm (min most (room B P b d false)) 0 jN L A kpl khd kch kdp kpr kbb kby kbs ked keb kwho kh (by omega) (by show _ < 2000000; omega) h3 h4 h5 (by omega) (by simpa using h7) h8 (by rw [z0]; exact h9) (by rw [z0]; exact h10)
  rw [cd] at q5 q6
  have hs := (room_st (bk := false) h hP.1 hb hd (k := k') q2).1
  have i1 := hs.1 b hb
  have i0 := hP.1.1 b hb
  have back : updN (updN P b (nxtk d (P b) k')) b (P b) = P := by rw [updN_two]; exact updN_self
  have lw := lay_who (b := b) (q := P b) hs (by rw [back]; exact hP.1) hb q3
  rw [back] at lw
  refine ⟨well, st, ed, a1, a2, a3, a4, a5, a6, a7, a8, a9, a10, _, upd a12 b (nI (P b)), ?_, lw, ?_, q5, q6⟩
  · unfold f_BargeBasinModel_goesOn
    rw [nI_0] at q1
    rw [ev_grdN _ b12 (by decide), ev_bnd, cl_nI b12, h10 b hb, ev_b _ q1, un15_ap]
    unfold f_BargeBasinModel_goesOn_J165
    rw [ev_grdN _ b12 (by decide), cl_nI b12, q4 b hb, ev_b _ (m_layB h hr hb i1.1 i1.2 _), ev_grdN _ b12 (by decide), ev_b _ (m_layB h hr hb i0.1 i0.2 _), ev_bool _ (bI_01 _)]
  · have := chP_upd (b := b) (q := P b) q4
    rw [back] at this
    exact this
