/-! lowAfter, highAfter, after. -/
def stI (d : Nat) : Int := dxI d + 8 * dyI d
theorem lN_ofInt (n : Nat) : lN n = Int64.ofInt (n : Int) := Int64.ofInt_eq_ofNat.symm
theorem s_inLow : ∀ b, b < 12 → ∀ d, d < 4 → ∀ k, k < 8 → f_Search_inLow (nI b) (nI k * sv_STEP d) = some (Int64.ofInt (if b < 6 then 64 ^ b * ((k : Int) * stI d) else 0)) := by decide +kernel
theorem s_inHigh : ∀ b, b < 12 → ∀ d, d < 4 → ∀ k, k < 8 → f_Search_inHigh (nI b) (nI k * sv_STEP d) = some (Int64.ofInt (if b < 6 then 0 else 64 ^ (b - 6) * ((k : Int) * stI d))) := by decide +kernel
theorem eL_upd {P : Nat → Nat} {b q : Nat} (hb : b < 12) : ((eL (updN P b q) : Nat) : Int) = (eL P : Int) + (if b < 6 then 64 ^ b * ((q : Int) - P b) else 0) := by
  have : b = 0 ∨ b = 1 ∨ b = 2 ∨ b = 3 ∨ b = 4 ∨ b = 5 ∨ b = 6 ∨ b = 7 ∨ b = 8 ∨ b = 9 ∨ b = 10 ∨ b = 11 := by omega
  rcases this with e | e | e | e | e | e | e | e | e | e | e | e <;> subst e <;> simp [eL, updN] <;> omega
theorem eH_upd {P : Nat → Nat} {b q : Nat} (hb : b < 12) : ((eH (updN P b q) : Nat) : Int) = (eH P : Int) + (if b < 6 then 0 else 64 ^ (b - 6) * ((q : Int) - P b)) := by
  have : b = 0 ∨ b = 1 ∨ b = 2 ∨ b = 3 ∨ b = 4 ∨ b = 5 ∨ b = 6 ∨ b = 7 ∨ b = 8 ∨ b = 9 ∨ b = 10 ∨ b = 11 := by omega
  rcases this with e | e | e | e | e | e | e | e | e | e | e | e <;> subst e <;> simp [eH, updN] <;> omega
theorem s_lowAfter {B : Bas} {P : Nat → Nat} {most c i : Nat} {bk : Bool} {klow : Nat → Int64} (h : basOk B) (hs : stC B P) (hc : c ∈ mvs B P most bk) (hi : i < 6000) (hl : klow i = lN (eL P)) : f_Search_lowAfter (nI i) (nI c) klow = some (lN (eL (tgt P c))) := by
  have c4 := mvs_400 h hc
  obtain ⟨b, d, k, hb, hd, h1, h2, h3, e⟩ := mvs_mem.mp hc
  have r7 := room_le (B := B) (P := P) (b := b) (d := d) (bk := bk)
  obtain ⟨m1, m2, m3⟩ := mv_code (b := b) hd (show k < 8 by omega)
  have b12 : b < 12 := by have := h.2.2.2.2.1; omega
  have rs := (room_st h hs.1 hb hd h3).2
  unfold f_Search_lowAfter
  rw [ev_grdN _ hi (by decide), ev_b _ (s_bargeOf c c4), ev_b _ (s_stepsOf c c4), ev_b _ (s_dirOf c c4), e, m1, m2, m3, ev_grdN _ hd (by decide), nI_clamp (show d < 2 ^ 31 by omega), ev_b _ (s_inLow b b12 d hd k (by omega)), nI_clamp (show i < 2 ^ 31 by omega), hl, tgt_code hd (by omega), lN_ofInt, lN_ofInt, ← Int64.ofInt_add, eL_upd b12, rs]
  refine congrArg some (congrArg Int64.ofInt ?_)
  unfold stI
  have : (P b : Int) + k * (dxI d + 8 * dyI d) - P b = k * (dxI d + 8 * dyI d) := by omega
  rw [this]
theorem s_highAfter {B : Bas} {P : Nat → Nat} {most c i : Nat} {bk : Bool} {khigh : Nat → Int64} (h : basOk B) (hs : stC B P) (hc : c ∈ mvs B P most bk) (hi : i < 6000) (hl : khigh i = lN (eH P)) : f_Search_highAfter (nI i) (nI c) khigh = some (lN (eH (tgt P c))) := by
  have c4 := mvs_400 h hc
  obtain ⟨b, d, k, hb, hd, h1, h2, h3, e⟩ := mvs_mem.mp hc
  have r7 := room_le (B := B) (P := P) (b := b) (d := d) (bk := bk)
  obtain ⟨m1, m2, m3⟩ := mv_code (b := b) hd (show k < 8 by omega)
  have b12 : b < 12 := by have := h.2.2.2.2.1; omega
  have rs := (room_st h hs.1 hb hd h3).2
  unfold f_Search_highAfter
  rw [ev_grdN _ hi (by decide), ev_b _ (s_bargeOf c c4), ev_b _ (s_stepsOf c c4), ev_b _ (s_dirOf c c4), e, m1, m2, m3, ev_grdN _ hd (by decide), nI_clamp (show d < 2 ^ 31 by omega), ev_b _ (s_inHigh b b12 d hd k (by omega)), nI_clamp (show i < 2 ^ 31 by omega), hl, tgt_code hd (by omega), lN_ofInt, lN_ofInt, ← Int64.ofInt_add, eH_upd b12, rs]
  refine congrArg some (congrArg Int64.ofInt ?_)
  unfold stI
  have : (P b : Int) + k * (dxI d + 8 * dyI d) - P b = k * (dxI d + 8 * dyI d) := by omega
  rw [this]
/-- the number of a stand in L, or none -/
def isNo (L : List (Nat → Nat)) (v : Nat → Nat) (o : Option Nat) : Prop := (∀ i, o = some i → ∃ hi : i < L.length, L[i] = v) ∧ (o = none → ¬ v ∈ L)
theorem s_after {B : Bas} {L : List (Nat → Nat)} {P : Nat → Nat} {most c i : Nat} {bk : Bool} {klow khigh : Nat → Int64} {kslots kfor : Nat → Int32} (h : basOk B) (ht : tab B L klow khigh kslots kfor) (hi : i < L.length) (hP : L[i] = P) (hc : c ∈ mvs B P most bk) :
    ∃ o, f_Search_after (nI i) (nI c) klow khigh kslots = some (oI o) ∧ isNo L (tgt P c) o := by
  obtain ⟨hl, hL, hcs, sl, sf, hk, hkf, ho⟩ := ht
  have hs : stC B P := by rw [← hP]; exact hL _ (List.getElem_mem hi)
  obtain ⟨c1, c2⟩ := hcs i hi
  rw [hP] at c1 c2
  obtain ⟨s, s16, es, q⟩ := s_slotOf h hl hL (mvs_can h hs hc) hcs hk ho
  have ev : f_Search_after (nI i) (nI c) klow khigh kslots = some (nI (sl s) - 1) := by
    unfold f_Search_after
    rw [ev_b _ (s_lowAfter h hs hc (by omega) c1), ev_b _ (s_highAfter h hs hc (by omega) c2), ev_b _ es, ev_grdN _ s16 (by decide), nI_clamp (by omega), hk s s16]
  rcases q with ⟨j, hj, e1, e2⟩ | ⟨nm, e2, -⟩
  · refine ⟨some j, ?_, ?_, fun z => by cases z⟩
    · rw [ev, e2, nI_pred]; rfl
    · intro a ha; cases ha; exact ⟨hj, e1⟩
  · refine ⟨none, ?_, fun a ha => by (cases ha), fun _ => nm⟩
    rw [ev, e2]; rfl
/-! explore: the loop over the moves of one stand. -/
def sucB (B : Bas) (most : Nat) (P : Nat → Nat) : List (Nat → Nat) := (mvs B P most false).map (tgt P)
/-- found and spent hold the list T, or T has too many -/
def exS (B : Bas) (T : List (Nat → Nat)) (kfound ksp : Int32) (klow khigh : Nat → Int64) (kslots kfor : Nat → Int32) : Prop :=
  (ksp = 0 ∧ kfound = nI T.length ∧ tab B T klow khigh kslots kfor) ∨ (ksp = 1 ∧ 6000 < T.length ∧ ∃ L, L.length = 6000 ∧ kfound = nI L.length ∧ (∃ l, T = L ++ l) ∧ tab B L klow khigh kslots kfor)
theorem exS_meet {B : Bas} {T : List (Nat → Nat)} {v : Nat → Nat} {kfound ksp : Int32} {klow khigh : Nat → Int64} {kslots kfor : Nat → Int32} (h : basOk B) (hx : exS B T kfound ksp klow khigh kslots kfor) (hv : stC B v) :
    ∃ f s a b c d, f_Search_meet (lN (eL v)) (lN (eH v)) kfound ksp klow khigh kslots kfor = some (f, s, a, b, c, d) ∧ exS B (meetL T v) f s a b c d := by
  rcases hx with ⟨e1, e2, ht⟩ | ⟨e1, e2, L, e3, e4, ⟨l, e5⟩, ht⟩
  · subst e1; subst e2
    rcases s_meet h ht hv 0 with ⟨m, e⟩ | ⟨m, hl, a, b, c, d, e, t⟩ | ⟨m, hl, e⟩
    · exact ⟨_, _, _, _, _, _, e, Or.inl ⟨rfl, by rw [meetL_in m], by rw [meetL_in m]; exact ht⟩⟩
    · exact ⟨_, _, _, _, _, _, e, Or.inl ⟨rfl, by rw [meetL_out m], by rw [meetL_out m]; exact t⟩⟩
    · exact ⟨_, _, _, _, _, _, e, Or.inr ⟨rfl, by rw [meetL_out m, List.length_append, List.length_singleton]; omega, T, hl, rfl, ⟨[v], meetL_out m⟩, ht⟩⟩
  · subst e1; subst e4
    obtain ⟨l2, el2⟩ := meetL_pre T v
    have keep : 6000 < (meetL T v).length ∧ ∃ l', meetL T v = L ++ l' := by
      rw [el2]
      exact ⟨by rw [List.length_append]; omega, l ++ l2, by rw [e5, List.append_assoc]⟩
    rcases s_meet h ht hv 1 with ⟨m, e⟩ | ⟨m, hl, -⟩ | ⟨m, hl, e⟩
    · exact ⟨_, _, _, _, _, _, e, Or.inr ⟨rfl, keep.1, L, e3, rfl, keep.2, ht⟩⟩
    · omega
    · exact ⟨_, _, _, _, _, _, e, Or.inr ⟨rfl, keep.1, L, e3, rfl, keep.2, ht⟩⟩
/-- stand i is as it was, however many came behind -/
theorem exS_at {B : Bas} {T T0 : List (Nat → Nat)} {kfound ksp : Int32} {klow khigh : Nat → Int64} {kslots kfor : Nat → Int32} {i : Nat} (hx : exS B T kfound ksp klow khigh kslots kfor) (hp : ∃ l, T = T0 ++ l) (h6 : T0.length ≤ 6000) (hi : i < T0.length) : klow i = lN (eL T0[i]) ∧ khigh i = lN (eH T0[i]) := by
  obtain ⟨l, e⟩ := hp
  rcases hx with ⟨-, -, ht⟩ | ⟨-, e2, L, e3, -, ⟨l2, e5⟩, ht⟩
  · obtain ⟨-, -, hcs, -⟩ := ht
    have := hcs i (by rw [e, List.length_append]; omega)
    simpa [e, List.getElem_append_left hi] using this
  · obtain ⟨-, -, hcs, -⟩ := ht
    have iL : i < L.length := by omega
    have := hcs i iL
    have g : T0[i] = L[i] := by
      have a1 : (T0 ++ l)[i]'(by rw [List.length_append]; omega) = T0[i] := List.getElem_append_left hi
      have a2 : (L ++ l2)[i]'(by rw [List.length_append]; omega) = L[i] := List.getElem_append_left iL
      rw [← a1, ← a2]
      have : T0 ++ l = L ++ l2 := by rw [← e, e5]
      simp only [this]
    rw [g]; exact this
theorem s_exL45 {B : Bas} {T0 : List (Nat → Nat)} {P : Nat → Nat} {i : Nat} {km : Nat → Int32} (h : basOk B) (h6 : T0.length ≤ 6000) (hi : i < T0.length) (hP : T0[i] = P) (hs : stC B P) (hw : wrt km (mvs B P 7 false)) (hm : (mvs B P 7 false).length ≤ 336) :
    ∀ (r j n : Nat) (T : List (Nat → Nat)) (kfound ksp : Int32) (klow khigh : Nat → Int64) (kslots kfor : Nat → Int32), j + r = (mvs B P 7 false).length → r < n → (∃ l, T = T0 ++ l) → exS B T kfound ksp klow khigh kslots kfor →
      ∃ f s a b c d, f_Search_explore_L45 (nI i) (nI (mvs B P 7 false).length) km n (nI j) kfound ksp klow khigh kslots kfor = some (f, s, a, b, c, d) ∧ exS B ((((mvs B P 7 false).drop j).map (tgt P)).foldl meetL T) f s a b c d := by
  intro r
  induction r with
  | zero =>
    intro j n T kfound ksp klow khigh kslots kfor h1 h2 h3 h4
    obtain ⟨n, rfl⟩ : ∃ z, n = z + 1 := ⟨n - 1, by omega⟩
    refine ⟨kfound, ksp, klow, khigh, kslots, kfor, ?_, ?_⟩
    · rw [f_Search_explore_L45, if_pos (nI_le (by omega) (by omega))]
    · rw [List.drop_of_length_le (by omega)]
      exact h4
  | succ r ih =>
    intro j n T kfound ksp klow khigh kslots kfor h1 h2 h3 h4
    obtain ⟨n, rfl⟩ : ∃ z, n = z + 1 := ⟨n - 1, by omega⟩
    have hj : j < (mvs B P 7 false).length := by omega
    have hc : (mvs B P 7 false)[j] ∈ mvs B P 7 false := List.getElem_mem hj
    obtain ⟨l1, l2⟩ := exS_at h4 h3 h6 hi
    rw [hP] at l1 l2
    obtain ⟨f, s, a, b, c, d, e, x⟩ := exS_meet h h4 (mvs_can h hs hc)
    obtain ⟨f', s', a', b', c', d', e', x'⟩ := ih (j + 1) n (meetL T (tgt P (mvs B P 7 false)[j])) f s a b c d (by omega) (by omega) (by
      obtain ⟨q, hq⟩ := h3
      obtain ⟨q2, hq2⟩ := meetL_pre T (tgt P (mvs B P 7 false)[j])
      exact ⟨q ++ q2, by rw [hq2, hq, List.append_assoc]⟩) x
    refine ⟨f', s', a', b', c', d', ?_, ?_⟩
    · rw [f_Search_explore_L45, if_neg (nI_ge hj (by omega)), ev_grdN _ (show j < 336 by omega) (by decide), nI_clamp (show j < 2 ^ 31 by omega), hw j hj, ev_b _ (s_lowAfter h hs hc (by omega) l1), ev_grdN _ (show j < 336 by omega) (by decide), ev_b _ (s_highAfter h hs hc (by omega) l2), ev_b _ e]
      show f_Search_explore_L45 _ _ _ n (nI j + 1) f s a b c d = _
      rw [nI_1, e']
    · rw [List.drop_eq_getElem_cons hj, List.map_cons, List.foldl_cons]
      exact x'
