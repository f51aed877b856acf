/-! The reference's hash, isHere, numberOf. -/
def hacc (P : Nat → Nat) : Nat → Int32
  | 0 => 7
  | b + 1 => hacc P b * 67 + nI (P b)
def hshR (B : Bas) (P : Nat → Nat) : Nat := ((hacc P (bn B) ^^^ jiushr (hacc P (bn B)) 15) &&& 16383).toNatClampNeg
theorem hshR_lt (B : Bas) (P : Nat → Nat) : hshR B P < 16384 ∧ ((hacc P (bn B) ^^^ jiushr (hacc P (bn B)) 15) &&& 16383) = nI (hshR B P) := by
  obtain ⟨j, hj, e⟩ := pk_andE (hacc P (bn B) ^^^ jiushr (hacc P (bn B)) 15) (m := 16383) 14 (by decide)
  unfold hshR
  rw [e, nI_clamp (by omega)]
  exact ⟨hj, rfl⟩
theorem m_hash {B : Bas} {P : Nat → Nat} {kh : Nat → Int32} (h : basOk B) (hp : chP B P kh) : f_BargeBasinModel_hash (nI (bn B)) kh = some (nI (hshR B P)) := by
  have n12 := h.2.2.2.2.1
  have loop : ∀ (r b n : Nat), b + r = bn B → r < n → f_BargeBasinModel_hash_L5 (nI (bn B)) kh n (hacc P b) (nI b) = some (hacc P (bn B)) := by
    intro r
    induction r with
    | zero =>
      intro b n h1 h2
      obtain ⟨n, rfl⟩ : ∃ z, n = z + 1 := ⟨n - 1, by omega⟩
      have e : b = bn B := by omega
      subst e
      rw [f_BargeBasinModel_hash_L5, if_pos (nI_le (Nat.le_refl _) (by omega))]
    | succ r ih =>
      intro b n h1 h2
      obtain ⟨n, rfl⟩ : ∃ z, n = z + 1 := ⟨n - 1, by omega⟩
      rw [f_BargeBasinModel_hash_L5, if_neg (nI_ge (by omega) (by omega)), ev_grdN _ (show b < 12 by omega) (by decide), ev_bnd, ev_bnd, cl_nI (show b < 12 by omega), hp b (by omega), nI_1]
      exact ih (b + 1) n (by omega) (by omega)
  have e := loop (bn B) 0 jN (by omega) (by show bn B < 2000000; omega)
  rw [nI_0] at e
  unfold f_BargeBasinModel_hash
  rw [ev_b _ (show f_BargeBasinModel_hash_L5 (nI (bn B)) kh jN 7 0 = _ from e), (hshR_lt B P).2]
def rP (B : Bas) (L : List (Nat → Nat)) (kpl : Nat → Int32) : Prop := ∀ i, (hi : i < L.length) → ∀ b, b < bn B → kpl (12 * i + b) = nI (L[i] b)
def lastH (f : Nat → Nat) (h : Nat) : Nat → Option Nat
  | 0 => none
  | j + 1 => if f j = h then some j else lastH f h j
theorem lastH_some {f : Nat → Nat} {h : Nat} : ∀ {j i : Nat}, lastH f h j = some i → i < j ∧ f i = h ∧ ∀ k, i < k → k < j → f k ≠ h
  | 0, i, e => by cases e
  | j + 1, i, e => by
    unfold lastH at e
    by_cases z : f j = h
    · rw [if_pos z] at e; cases e
      exact ⟨by omega, z, fun k h1 h2 => by omega⟩
    · rw [if_neg z] at e
      obtain ⟨a, b, c⟩ := lastH_some e
      refine ⟨by omega, b, fun k h1 h2 => ?_⟩
      by_cases y : k = j
      · subst y; exact z
      · exact c k h1 (by omega)
theorem lastH_none {f : Nat → Nat} {h : Nat} : ∀ {j : Nat}, lastH f h j = none → ∀ k, k < j → f k ≠ h
  | 0, e, k, hk => by omega
  | j + 1, e, k, hk => by
    unfold lastH at e
    by_cases z : f j = h
    · rw [if_pos z] at e; cases e
    · rw [if_neg z] at e
      by_cases y : k = j
      · subst y; exact z
      · exact lastH_none e k (by omega)
theorem lastH_cg {f g : Nat → Nat} {h : Nat} : ∀ {j : Nat}, (∀ k, k < j → f k = g k) → lastH f h j = lastH g h j
  | 0, _ => rfl
  | j + 1, e => by
    unfold lastH
    rw [e j (by omega), lastH_cg (fun k hk => e k (by omega))]
def hsL (B : Bas) (L : List (Nat → Nat)) (i : Nat) : Nat := match L[i]? with | some P => hshR B P | none => 0
theorem hsL_at {B : Bas} {L : List (Nat → Nat)} {i : Nat} (hi : i < L.length) : hsL B L i = hshR B L[i] := by
  unfold hsL
  rw [List.getElem?_eq_getElem hi]
def rC (B : Bas) (L : List (Nat → Nat)) (khd kch : Nat → Int32) : Prop := (∀ s, s < 16384 → khd s = oI (lastH (hsL B L) s L.length)) ∧ (∀ i, i < L.length → kch i = oI (lastH (hsL B L) (hsL B L i) i))
def rTab (B : Bas) (L : List (Nat → Nat)) (kpl khd kch : Nat → Int32) : Prop := (∀ P, P ∈ L → stC B P) ∧ rP B L kpl ∧ rC B L khd kch
theorem idx12 {i b : Nat} : (12 : Int32) * nI i + nI b = nI (12 * i + b) := by
  have : (12 : Int32) * nI i = nI (12 * i) := pk_mul 12 i
  rw [this, nI_add]
theorem m_isHere {B : Bas} {L : List (Nat → Nat)} {v : Nat → Nat} {i : Nat} {kpl kh : Nat → Int32} (h : basOk B) (hp : rP B L kpl) (hh : chP B v kh) (hi : i < L.length) (hl : L.length ≤ 6001) (hs : stC B L[i]) (hv : stC B v) : ∃ t : Bool, f_BargeBasinModel_isHere (nI i) (nI (bn B)) kpl kh = some (bI t) ∧ (t = true ↔ L[i] = v) := by
  have n12 := h.2.2.2.2.1
  have loop : ∀ (r b n : Nat), b + r = bn B → r < n → ∃ x : Unit ⊕ Unit, f_BargeBasinModel_isHere_L2 (nI i) (nI (bn B)) kpl kh n (nI b) = some x ∧ ((x = .inr () ∧ ∀ c, b ≤ c → c < bn B → L[i] c = v c) ∨ (x = .inl () ∧ ¬ ∀ c, b ≤ c → c < bn B → L[i] c = v c)) := by
    intro r
    induction r with
    | zero =>
      intro b n h1 h2
      obtain ⟨n, rfl⟩ : ∃ z, n = z + 1 := ⟨n - 1, by omega⟩
      exact ⟨.inr (), by rw [f_BargeBasinModel_isHere_L2, if_pos (nI_le (by omega) (by omega))], Or.inl ⟨rfl, fun c h1 h2 => by omega⟩⟩
    | succ r ih =>
      intro b n h1 h2
      obtain ⟨n, rfl⟩ : ∃ z, n = z + 1 := ⟨n - 1, by omega⟩
      rw [f_BargeBasinModel_isHere_L2, if_neg (nI_ge (by omega) (by omega)), idx12, ev_grdN _ (show 12 * i + b < 72012 by omega) (by decide), ev_grdN _ (show b < 12 by omega) (by decide), nI_clamp (by omega), cl_nI (show b < 12 by omega), hp i hi b (by omega), hh b (by omega)]
      have c1 := stC_64 h hs b
      have c2 := stC_64 h hv b
      have ce : (nI (L[i] b) = nI (v b)) = (L[i] b = v b) := nI_eqL (by omega) (by omega)
      simp only [ce]
      by_cases e : L[i] b = v b
      · obtain ⟨x, x1, x2⟩ := ih (b + 1) n (by omega) (by omega)
        refine ⟨x, by rw [if_pos e, ev_bnd, nI_1, x1], ?_⟩
        rcases x2 with ⟨y1, y2⟩ | ⟨y1, y2⟩
        · refine Or.inl ⟨y1, fun c h3 h4 => ?_⟩
          by_cases z : c = b
          · subst z; exact e
          · exact y2 c (by omega) h4
        · exact Or.inr ⟨y1, fun z => y2 (fun c h3 h4 => z c (by omega) h4)⟩
      · exact ⟨.inl (), by rw [if_neg e], Or.inr ⟨rfl, fun z => e (z b (Nat.le_refl _) (by omega))⟩⟩
  obtain ⟨x, x1, x2⟩ := loop (bn B) 0 jN (by omega) (by show bn B < 2000000; omega)
  rw [nI_0] at x1
  unfold f_BargeBasinModel_isHere
  rcases x2 with ⟨y1, y2⟩ | ⟨y1, y2⟩
  · refine ⟨true, ?_, fun _ => stC_ext hs.2 hv.2 (fun b hb => y2 b (by omega) hb), fun _ => rfl⟩
    rw [ev_b _ x1, y1, jsel_r, un0_ap]; rfl
  · refine ⟨false, ?_, fun z => by (cases z), fun z => absurd (fun c _ _ => by rw [z]) y2⟩
    rw [ev_b _ x1, y1, jsel_l, un0_ap]; rfl
theorem m_walk {B : Bas} {L : List (Nat → Nat)} {v : Nat → Nat} {v1 : Int32} {kpl khd kch kh : Nat → Int32} (h : basOk B) (ht : rTab B L kpl khd kch) (hl : L.length ≤ 6001) (hh : chP B v kh) (hv : stC B v) :
    ∀ (j n : Nat), j ≤ L.length → j < n → ∃ o, f_BargeBasinModel_numberOf_L12 v1 (nI (bn B)) kpl kch kh n (oI (lastH (hsL B L) (hshR B v) j)) = some (oI o) ∧ (∀ i, o = some i → ∃ hi : i < L.length, L[i] = v) ∧ (o = none → ∀ i, (hi : i < L.length) → i < j → L[i] ≠ v) := by
  intro j
  induction j using Nat.strongRecOn with
  | ind j ih =>
    intro n hj hn
    obtain ⟨n, rfl⟩ : ∃ z, n = z + 1 := ⟨n - 1, by omega⟩
    cases e : lastH (hsL B L) (hshR B v) j with
    | none =>
      refine ⟨none, by rw [f_BargeBasinModel_numberOf_L12, if_pos (show oI none < 0 by decide)], fun i hi => by (cases hi), fun _ i hi hij z => ?_⟩
      exact lastH_none e i hij (by rw [hsL_at hi, z])
    | some i =>
      obtain ⟨i1, i2, i3⟩ := lastH_some e
      have hi : i < L.length := by omega
      obtain ⟨t, t1, t2⟩ := m_isHere h ht.2.1 hh hi hl (ht.1 _ (List.getElem_mem hi)) hv
      rw [f_BargeBasinModel_numberOf_L12, show oI (some i) = nI i from rfl, if_neg (nI_pos (by omega)), ev_b _ t1]
      cases t with
      | true =>
        exact ⟨some i, by rw [if_neg (show ¬ bI true = 0 by decide)]; rfl, fun k hk => by cases hk; exact ⟨hi, t2.mp rfl⟩, fun z => by cases z⟩
      | false =>
        have ne : L[i] ≠ v := fun z => by have := t2.mpr z; cases this
        obtain ⟨o, o1, o2, o3⟩ := ih i i1 n (by omega) (by omega)
        refine ⟨o, ?_, o2, fun z k hk hkj => ?_⟩
        · rw [if_pos (show bI false = 0 by decide), ev_grdN _ (show i < 6001 by omega) (by decide), ev_bnd, nI_clamp (by omega), ht.2.2.2 i hi, i2]
          exact o1
        · by_cases y : k < i
          · exact o3 z k hk y
          · by_cases y2 : k = i
            · subst y2; exact ne
            · intro w
              exact i3 k (by omega) hkj (by rw [hsL_at hk, w])
theorem byte64 : ∀ p, p < 64 → vp_nar .byte ((nI p).toInt8.toInt32) = nI p := by decide +kernel
theorem m_putL {B : Bas} {v : Nat → Nat} {N : Nat} {v1 : Int32} {kh : Nat → Int32} (h : basOk B) (hh : chP B v kh) (hv : stC B v) (hN : N ≤ 6000) : ∀ (r b n : Nat) (k : Nat → Int32), b + r = bn B → r < n → ∃ k', f_BargeBasinModel_numberOf_L47 v1 (nI N) (nI (bn B)) kh n (nI b) k = some k' ∧ (∀ c, b ≤ c → c < bn B → k' (12 * N + c) = nI (v c)) ∧ (∀ x, (x < 12 * N + b ∨ 12 * N + 12 ≤ x) → k' x = k x) := by
  have n12 := h.2.2.2.2.1
  intro r
  induction r with
  | zero =>
    intro b n k h1 h2
    obtain ⟨n, rfl⟩ : ∃ z, n = z + 1 := ⟨n - 1, by omega⟩
    exact ⟨k, by rw [f_BargeBasinModel_numberOf_L47, if_pos (nI_le (by omega) (by omega))], fun c h3 h4 => by omega, fun x _ => rfl⟩
  | succ r ih =>
    intro b n k h1 h2
    obtain ⟨n, rfl⟩ : ∃ z, n = z + 1 := ⟨n - 1, by omega⟩
    obtain ⟨k', e, p1, p2⟩ := ih (b + 1) n (upd k (12 * N + b) (nI (v b))) (by omega) (by omega)
    refine ⟨k', ?_, ?_, ?_⟩
    · rw [f_BargeBasinModel_numberOf_L47, if_neg (nI_ge (by omega) (by omega)), ev_grdN _ (show b < 12 by omega) (by decide), ev_bnd, idx12, ev_grdN _ (show 12 * N + b < 72012 by omega) (by decide), ev_bnd, nI_1, nI_clamp (by omega), cl_nI (show b < 12 by omega), hh b (by omega), byte64 _ (stC_64 h hv b), e]
    · intro c h3 h4
      by_cases z : c = b
      · subst z
        rw [p2 _ (Or.inl (by omega)), pk_us]
      · exact p1 c (by omega) h4
    · intro x hx
      rw [p2 x (by omega), pk_un (by omega)]
theorem m_numberOf {B : Bas} {L : List (Nat → Nat)} {v : Nat → Nat} {kpl khd kch kh : Nat → Int32} (h : basOk B) (ht : rTab B L kpl khd kch) (hl : L.length ≤ 6000) (hh : chP B v kh) (hv : stC B v) :
    (∃ i, ∃ hi : i < L.length, L[i] = v ∧ f_BargeBasinModel_numberOf (nI (bn B)) (nI L.length) kpl khd kch kh = some (nI i, nI L.length, kpl, khd, kch)) ∨
    ((¬ v ∈ L) ∧ ∃ kpl' khd' kch', f_BargeBasinModel_numberOf (nI (bn B)) (nI L.length) kpl khd kch kh = some (nI L.length, nI (L ++ [v]).length, kpl', khd', kch') ∧ rTab B (L ++ [v]) kpl' khd' kch') := by
  obtain ⟨z0, z1⟩ := hshR_lt B v
  obtain ⟨o, o1, o2, o3⟩ := m_walk (v1 := nI (hshR B v)) h ht (by omega) hh hv L.length jN (Nat.le_refl _) (by show _ < 2000000; omega)
  have ev : ∀ o, f_BargeBasinModel_numberOf_L12 (nI (hshR B v)) (nI (bn B)) kpl kch kh jN (oI (lastH (hsL B L) (hshR B v) L.length)) = some (oI o) → f_BargeBasinModel_numberOf (nI (bn B)) (nI L.length) kpl khd kch kh = f_BargeBasinModel_numberOf_J34 (nI (hshR B v)) (oI o) (nI (bn B)) (nI L.length) kpl khd kch kh := by
    intro o e
    unfold f_BargeBasinModel_numberOf
    rw [ev_b _ (m_hash h hh), ev_grdN _ z0 (by decide), ev_bnd, nI_clamp (by omega), ht.2.2.1 _ z0, ev_b _ e]
  cases o with
  | some i =>
    obtain ⟨hi, e⟩ := o2 i rfl
    refine Or.inl ⟨i, hi, e, ?_⟩
    rw [ev _ o1]
    unfold f_BargeBasinModel_numberOf_J34
    rw [show oI (some i) = nI i from rfl, if_neg (nI_pos (by omega))]
  | none =>
    have nm : ¬ v ∈ L := by
      intro m
      obtain ⟨i, hi, e⟩ := List.getElem_of_mem m
      exact o3 rfl i hi hi e
    obtain ⟨k', e, p1, p2⟩ := m_putL (v1 := nI (hshR B v)) (N := L.length) h hh hv hl (bn B) 0 jN kpl (by omega) (by have := h.2.2.2.2.1; show bn B < 2000000; omega)
    refine Or.inr ⟨nm, k', upd khd (hshR B v) (nI L.length), upd kch L.length (khd (hshR B v)), ?_, ?_⟩
    · rw [nI_0] at e
      rw [ev _ o1]
      unfold f_BargeBasinModel_numberOf_J34
      rw [if_pos (show oI none < 0 by decide), ev_b _ e, ev_grdN _ z0 (by decide), ev_bnd, ev_grdN _ (show L.length < 6001 by omega) (by decide), ev_grdN _ z0 (by decide), ev_bnd, nI_1, nI_clamp (show hshR B v < 2 ^ 31 by omega), nI_clamp (show L.length < 2 ^ 31 by omega), List.length_append, List.length_singleton]
    · have len : (L ++ [v]).length = L.length + 1 := by simp
      have gl : ∀ j, (hj : j < L.length) → (L ++ [v])[j]'(by rw [len]; omega) = L[j] := fun j hj => List.getElem_append_left hj
      have gr : (L ++ [v])[L.length]'(by rw [len]; omega) = v := by simp
      have hs : ∀ i, i < L.length → hsL B (L ++ [v]) i = hsL B L i := by
        intro i hi
        rw [hsL_at hi, hsL_at (by rw [len]; omega), gl i hi]
      have hn : hsL B (L ++ [v]) L.length = hshR B v := by rw [hsL_at (by rw [len]; omega), gr]
      refine ⟨?_, ?_, ?_, ?_⟩
      · intro P hP
        rcases List.mem_append.mp hP with z | z
        · exact ht.1 P z
        · rw [List.mem_singleton.mp z]; exact hv
      · intro i hi b hb
        have n12 := h.2.2.2.2.1
        rw [len] at hi
        by_cases z : i = L.length
        · subst z
          rw [gr, p1 b (Nat.zero_le _) hb]
        · rw [gl i (by omega), p2 _ (Or.inl (by omega))]
          exact ht.2.1 i (by omega) b hb
      · intro s hs16
        rw [len]
        show _ = oI (if hsL B (L ++ [v]) L.length = s then some L.length else lastH (hsL B (L ++ [v])) s L.length)
        rw [hn, lastH_cg hs]
        by_cases z : s = hshR B v
        · subst z
          rw [pk_us, if_pos rfl]; rfl
        · rw [pk_un z, if_neg (fun y => z y.symm)]
          exact ht.2.2.1 s hs16
      · intro i hi
        rw [len] at hi
        by_cases z : i = L.length
        · subst z
          rw [pk_us, hn, lastH_cg hs]
          exact ht.2.2.1 _ z0
        · rw [pk_un z, hs i (by omega), lastH_cg (fun k hk => hs k (by omega))]
          exact ht.2.2.2 i (by omega)
