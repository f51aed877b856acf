section
/-! The reference's hash, isHere, numberOf. -/
def hacc (P : Nat → Nat) : Nat → Int32
  | 0 => 7
  | b + 1 => hacc P b * 67 + nI (P b)
def hshR (B : Bas) (P : Nat → Nat) : Nat := ((hacc P (bn B) ^^^ jiushr (hacc P (bn B)) 15) &&& 16383).toNatClampNeg
theorem hshR_lt (B : Bas) (P : Nat → Nat) : hshR B P < 16384 ∧ ((hacc P (bn B) ^^^ jiushr (hacc P (bn B)) 15) &&& 16383) = nI (hshR B P) := by
  obtain ⟨j, hj, e⟩ := pk_andE (hacc P (bn B) ^^^ jiushr (hacc P (bn B)) 15) (m := 16383) 14 (by decide)
  unfold hshR
  rw [e, nI_clamp (by omega)]
  exact ⟨hj, rfl⟩
theorem m_hash {B : Bas} {P : Nat → Nat} {kh : Nat → Int32} (h : basOk B) (hp : chP B P kh) : f_BargeBasinModel_hash (nI (bn B)) kh = some (nI (hshR B P)) := by
  have n12 := h.2.2.2.2.1
  have loop : ∀ (r b n : Nat), b + r = bn B → r < n → f_BargeBasinModel_hash_L5 (nI (bn B)) kh n (hacc P b) (nI b) = some (hacc P (bn B)) := by
    intro r
    induction r with
    | zero =>
      intro b n h1 h2
      obtain ⟨n, rfl⟩ : ∃ z, n = z + 1 := ⟨n - 1, by omega⟩
      have e : b = bn B := by omega
      subst e
      rw [f_BargeBasinModel_hash_L5, if_pos (nI_le (Nat.le_refl _) (by omega))]
    | succ r ih =>
      intro b n h1 h2
      obtain ⟨n, rfl⟩ : ∃ z, n = z + 1 := ⟨n - 1, by omega⟩
      rw [f_BargeBasinModel_hash_L5, if_neg (nI_ge (by omega) (by omega)), ev_grdN _ (show b < 12 by omega) (by decide), ev_bnd, ev_bnd, cl_nI (show b < 12 by omega), hp b (by omega), nI_1]
      exact ih (b + 1) n (by omega) (by omega)
  have e := loop (bn B) 0 jN (by omega) (by show bn B < 2000000; omega)
  rw [nI_0] at e
  unfold f_BargeBasinModel_hash
  rw [ev_b _ (show f_BargeBasinModel_hash_L5 (nI (bn B)) kh jN 7 0 = _ from e), (hshR_lt B P).2]
def rP (B : Bas) (L : List (Nat → Nat)) (kpl : Nat → Int32) : Prop := ∀ i, (hi : i < L.length) → ∀ b, b < bn B → kpl (12 * i + b) = nI (L[i] b)
def lastH (f : Nat → Nat) (h : Nat) : Nat → Option Nat
  | 0 => none
  | j + 1 => if f j = h then some j else lastH f h j
theorem lastH_some {f : Nat → Nat} {h : Nat} : ∀ {j i : Nat}, lastH f h j = some i → i < j ∧ f i = h ∧ ∀ k, i < k → k < j → f k ≠ h
  | 0, i, e => by cases e
  | j + 1, i, e => by
    unfold lastH at e
    by_cases z : f j = h
    · rw [if_pos z] at e; cases e
      exact ⟨by omega, z, fun k h1 h2 => by omega⟩
    · rw [if_neg z] at e
      obtain ⟨a, b, c⟩ := lastH_some e
      refine ⟨by omega, b, fun k h1 h2 => ?_⟩
      by_cases y : k = j
      · subst y; exact z
      · exact c k h1 (by omega)
theorem lastH_none {f : Nat → Nat} {h : Nat} : ∀ {j : Nat}, lastH f h j = none → ∀ k, k < j → f k ≠ h
  | 0, e, k, hk => by omega
  | j + 1, e, k, hk => by
    unfold lastH at e
    by_cases z : f j = h
    · rw [if_pos z] at e; cases e
    · rw [if_neg z] at e
      by_cases y : k = j
      · subst y; exact z
      · exact lastH_none e k (by omega)
theorem lastH_cg {f g : Nat → Nat} {h : Nat} : ∀ {j : Nat}, (∀ k, k < j → f k = g k) → lastH f h j = lastH g h j
  | 0, _ => rfl
  | j + 1, e => by
    unfold lastH
    rw [e j (by omega), lastH_cg (fun k hk => e k (by omega))]
def hsL (B : Bas) (L : List (Nat → Nat)) (i : Nat) : Nat := match L[i]? with | some P => hshR B P | none => 0
theorem hsL_at {B : Bas} {L : List (Nat → Nat)} {i : Nat} (hi : i < L.length) : hsL B L i = hshR B L[i] := by
  unfold hsL
  rw [List.getElem?_eq_getElem hi]
def rC (B : Bas) (L : List (Nat → Nat)) (khd kch : Nat → Int32) : Prop := (∀ s, s < 16384 → khd s = oI (lastH (hsL B L) s L.length)) ∧ (∀ i, i < L.length → kch i = oI (lastH (hsL B L) (hsL B L i) i))
def rTab (B : Bas) (L : List (Nat → Nat)) (kpl khd kch : Nat → Int32) : Prop := (∀ P, P ∈ L → stC B P) ∧ rP B L kpl ∧ rC B L khd kch
theorem idx12 {i b : Nat} : (12 : Int32) * nI i + nI b = nI (12 * i + b) := by
  have : (12 : Int32) * nI i = nI (12 * i) := pk_mul 12 i
  rw [this, nI_add]
theorem m_isHere {B : Bas} {L : List (Nat → Nat)} {v : Nat → Nat} {i : Nat} {kpl kh : Nat → Int32} (h : basOk B) (hp : rP B L kpl) (hh : chP B v kh) (hi : i < L.length) (hl : L.length ≤ 6001) (hs : stC B L[i]) (hv : stC B v) : ∃ t : Bool, f_BargeBasinModel_isHere (nI i) (nI (bn B)) kpl kh = some (bI t) ∧ (t = true ↔ L[i] = v) := by
  have n12 := h.2.2.2.2.1
  have loop : ∀ (r b n : Nat), b + r = bn B → r < n → ∃ x : Unit ⊕ Unit, f_BargeBasinModel_isHere_L2 (nI i) (nI (bn B)) kpl kh n (nI b) = some x ∧ ((x = .inr () ∧ ∀ c, b ≤ c → c < bn B → L[i] c = v c) ∨ (x = .inl () ∧ ¬ ∀ c, b ≤ c → c < bn B → L[i] c = v c)) := by
    intro r
    induction r with
    | zero =>
      intro b n h1 h2
      obtain ⟨n, rfl⟩ : ∃ z, n = z + 1 := ⟨n - 1, by omega⟩
      exact ⟨.inr (), by rw [f_BargeBasinModel_isHere_L2, if_pos (nI_le (by omega) (by omega))], Or.inl ⟨rfl, fun c h1 h2 => by omega⟩⟩
    | succ r ih =>
      intro b n h1 h2
      obtain ⟨n, rfl⟩ : ∃ z, n = z + 1 := ⟨n - 1, by omega⟩
      rw [f_BargeBasinModel_isHere_L2, if_neg (nI_ge (by omega) (by omega)), idx12, ev_grdN _ (show 12 * i + b < 72012 by omega) (by decide), ev_grdN _ (show b < 12 by omega) (by decide), nI_clamp (by omega), cl_nI (show b < 12 by omega), hp i hi b (by omega), hh b (by omega)]
      have c1 := stC_64 h hs b
      have c2 := stC_64 h hv b
      have ce : (nI (L[i] b) = nI (v b)) = (L[i] b = v b) := nI_eqL (by omega) (by omega)
      simp only [ce]
      by_cases e : L[i] b = v b
      · obtain ⟨x, x1, x2⟩ := ih (b + 1) n (by omega) (by omega)
        refine ⟨x, by rw [if_pos e, ev_bnd, nI_1, x1], ?_⟩
        rcases x2 with ⟨y1, y2⟩ | ⟨y1, y2⟩
        · refine Or.inl ⟨y1, fun c h3 h4 => ?_⟩
          by_cases z : c = b
          · subst z; exact e
          · exact y2 c (by omega) h4
        · exact Or.inr ⟨y1, fun z => y2 (fun c h3 h4 => z c (by omega) h4)⟩
      · exact ⟨.inl (), by rw [if_neg e], Or.inr ⟨rfl, fun z => e (z b (Nat.le_refl _) (by omega))⟩⟩
  obtain ⟨x, x1, x2⟩ := loop (bn B) 0 jN (by omega) (by show bn B < 2000000; omega)
  rw [nI_0] at x1
  unfold f_BargeBasinModel_isHere
  rcases x2 with ⟨y1, y2⟩ | ⟨y1, y2⟩
  · refine ⟨true, ?_, fun _ => stC_ext hs.2 hv.2 (fun b hb => y2 b (by omega) hb), fun _ => rfl⟩
    rw [ev_b _ x1, y1, jsel_r, un0_ap]; rfl
  · refine ⟨false, ?_, fun z => by (cases z), fun z => absurd (fun c _ _ => by rw [z]) y2⟩
    rw [ev_b _ x1, y1, jsel_l, un0_ap]; rfl
theorem m_walk {B : Bas} {L : List (Nat → Nat)} {v : Nat → Nat} {v1 : Int32} {kpl khd kch kh : Nat → Int32} (h : basOk B) (ht : rTab B L kpl khd kch) (hl : L.length ≤ 6001) (hh : chP B v kh) (hv : stC B v) :
    ∀ (j n : Nat), j ≤ L.length → j < n → ∃ o, f_BargeBasinModel_numberOf_L12 v1 (nI (bn B)) kpl kch kh n (oI (lastH (hsL B L) (hshR B v) j)) = some (oI o) ∧ (∀ i, o = some i → ∃ hi : i < L.length, L[i] = v) ∧ (o = none → ∀ i, (hi : i < L.length) → i < j → L[i] ≠ v) := by
  intro j
  induction j using Nat.strongRecOn with
  | ind j ih =>
    intro n hj hn
    obtain ⟨n, rfl⟩ : ∃ z, n = z + 1 := ⟨n - 1, by omega⟩
    cases e : lastH (hsL B L) (hshR B v) j with
    | none =>
      refine ⟨none, by rw [f_BargeBasinModel_numberOf_L12, if_pos (show oI none < 0 by decide)], fun i hi => by (cases hi), fun _ i hi hij z => ?_⟩
      exact lastH_none e i hij (by rw [hsL_at hi, z])
    | some i =>
      obtain ⟨i1, i2, i3⟩ := lastH_some e
      have hi : i < L.length := by omega
      obtain ⟨t, t1, t2⟩ := m_isHere h ht.2.1 hh hi hl (ht.1 _ (List.getElem_mem hi)) hv
      rw [f_BargeBasinModel_numberOf_L12, show oI (some i) = nI i from rfl, if_neg (nI_pos (by omega)), ev_b _ t1]
      cases t with
      | true =>
        exact ⟨some i, by rw [if_neg (show ¬ bI true = 0 by decide)]; rfl, fun k hk => by cases hk; exact ⟨hi, t2.mp rfl⟩, fun z => by cases z⟩
      | false =>
        have ne : L[i] ≠ v := fun z => by have := t2.mpr z; cases this
        obtain ⟨o, o1, o2, o3⟩ := ih i i1 n (by omega) (by omega)
        refine ⟨o, ?_, o2, fun z k hk hkj => ?_⟩
        · rw [if_pos (show bI false = 0 by decide), ev_grdN _ (show i < 6001 by omega) (by decide), ev_bnd, nI_clamp (by omega), ht.2.2.2 i hi, i2]
          exact o1
        · by_cases y : k < i
          · exact o3 z k hk y
          · by_cases y2 : k = i
            · subst y2; exact ne
            · intro w
              exact i3 k (by omega) hkj (by rw [hsL_at hk, w])
theorem byte64 : ∀ p, p < 64 → vp_nar .byte ((nI p).toInt8.toInt32) = nI p := by decide +kernel
theorem m_putL {B : Bas} {v : Nat → Nat} {N : Nat} {v1 : Int32} {kh : Nat → Int32} (h : basOk B) (hh : chP B v kh) (hv : stC B v) (hN : N ≤ 6000) : ∀ (r b n : Nat) (k : Nat → Int32), b + r = bn B → r < n → ∃ k₉, f_BargeBasinModel_numberOf_L47 v1 (nI N) (nI (bn B)) kh n (nI b) k = some k₉ ∧ (∀ c, b ≤ c → c < bn B → k₉ (12 * N + c) = nI (v c)) ∧ (∀ x, (x < 12 * N + b ∨ 12 * N + 12 ≤ x) → k₉ x = k x) := by
  have n12 := h.2.2.2.2.1
  intro r
  induction r with
  | zero =>
    intro b n k h1 h2
    obtain ⟨n, rfl⟩ : ∃ z, n = z + 1 := ⟨n - 1, by omega⟩
    exact ⟨k, by rw [f_BargeBasinModel_numberOf_L47, if_pos (nI_le (by omega) (by omega))], fun c h3 h4 => by omega, fun x _ => rfl⟩
  | succ r ih =>
    intro b n k h1 h2
    obtain ⟨n, rfl⟩ : ∃ z, n = z + 1 := ⟨n - 1, by omega⟩
    obtain ⟨k₉, e, p1, p2⟩ := ih (b + 1) n (upd k (12 * N + b) (nI (v b))) (by omega) (by omega)
    refine ⟨k₉, ?_, ?_, ?_⟩
    · rw [f_BargeBasinModel_numberOf_L47, if_neg (nI_ge (by omega) (by omega)), ev_grdN _ (show b < 12 by omega) (by decide), ev_bnd, idx12, ev_grdN _ (show 12 * N + b < 72012 by omega) (by decide), ev_bnd, nI_1, nI_clamp (by omega), cl_nI (show b < 12 by omega), hh b (by omega), byte64 _ (stC_64 h hv b), e]
    · intro c h3 h4
      by_cases z : c = b
      · subst z
        rw [p2 _ (Or.inl (by omega)), pk_us]
      · exact p1 c (by omega) h4
    · intro x hx
      rw [p2 x (by omega), pk_un (by omega)]
theorem m_numberOf {B : Bas} {L : List (Nat → Nat)} {v : Nat → Nat} {kpl khd kch kh : Nat → Int32} (h : basOk B) (ht : rTab B L kpl khd kch) (hl : L.length ≤ 6000) (hh : chP B v kh) (hv : stC B v) :
    (∃ i, ∃ hi : i < L.length, L[i] = v ∧ f_BargeBasinModel_numberOf (nI (bn B)) (nI L.length) kpl khd kch kh = some (nI i, nI L.length, kpl, khd, kch)) ∨
    ((¬ v ∈ L) ∧ ∃ kpl₉ khd₉ kch₉, f_BargeBasinModel_numberOf (nI (bn B)) (nI L.length) kpl khd kch kh = some (nI L.length, nI (L ++ [v]).length, kpl₉, khd₉, kch₉) ∧ rTab B (L ++ [v]) kpl₉ khd₉ kch₉) := by
  obtain ⟨z0, z1⟩ := hshR_lt B v
  obtain ⟨o, o1, o2, o3⟩ := m_walk (v1 := nI (hshR B v)) h ht (by omega) hh hv L.length jN (Nat.le_refl _) (by show _ < 2000000; omega)
  have ev : ∀ o, f_BargeBasinModel_numberOf_L12 (nI (hshR B v)) (nI (bn B)) kpl kch kh jN (oI (lastH (hsL B L) (hshR B v) L.length)) = some (oI o) → f_BargeBasinModel_numberOf (nI (bn B)) (nI L.length) kpl khd kch kh = f_BargeBasinModel_numberOf_J34 (nI (hshR B v)) (oI o) (nI (bn B)) (nI L.length) kpl khd kch kh := by
    intro o e
    unfold f_BargeBasinModel_numberOf
    rw [ev_b _ (m_hash h hh), ev_grdN _ z0 (by decide), ev_bnd, nI_clamp (by omega), ht.2.2.1 _ z0, ev_b _ e]
  cases o with
  | some i =>
    obtain ⟨hi, e⟩ := o2 i rfl
    refine Or.inl ⟨i, hi, e, ?_⟩
    rw [ev _ o1]
    unfold f_BargeBasinModel_numberOf_J34
    rw [show oI (some i) = nI i from rfl, if_neg (nI_pos (by omega))]
  | none =>
    have nm : ¬ v ∈ L := by
      intro m
      obtain ⟨i, hi, e⟩ := List.getElem_of_mem m
      exact o3 rfl i hi hi e
    obtain ⟨k₉, e, p1, p2⟩ := m_putL (v1 := nI (hshR B v)) (N := L.length) h hh hv hl (bn B) 0 jN kpl (by omega) (by have := h.2.2.2.2.1; show bn B < 2000000; omega)
    refine Or.inr ⟨nm, k₉, upd khd (hshR B v) (nI L.length), upd kch L.length (khd (hshR B v)), ?_, ?_⟩
    · rw [nI_0] at e
      rw [ev _ o1]
      unfold f_BargeBasinModel_numberOf_J34
      rw [if_pos (show oI none < 0 by decide), ev_b _ e, ev_grdN _ z0 (by decide), ev_bnd, ev_grdN _ (show L.length < 6001 by omega) (by decide), ev_grdN _ z0 (by decide), ev_bnd, nI_1, nI_clamp (show hshR B v < 2 ^ 31 by omega), nI_clamp (show L.length < 2 ^ 31 by omega), List.length_append, List.length_singleton]
    · have len : (L ++ [v]).length = L.length + 1 := by simp
      have gl : ∀ j, (hj : j < L.length) → (L ++ [v])[j]'(by rw [len]; omega) = L[j] := fun j hj => List.getElem_append_left hj
      have gr : (L ++ [v])[L.length]'(by rw [len]; omega) = v := by simp
      have hs : ∀ i, i < L.length → hsL B (L ++ [v]) i = hsL B L i := by
        intro i hi
        rw [hsL_at hi, hsL_at (by rw [len]; omega), gl i hi]
      have hn : hsL B (L ++ [v]) L.length = hshR B v := by rw [hsL_at (by rw [len]; omega), gr]
      refine ⟨?_, ?_, ?_, ?_⟩
      · intro P hP
        rcases List.mem_append.mp hP with z | z
        · exact ht.1 P z
        · rw [List.mem_singleton.mp z]; exact hv
      · intro i hi b hb
        have n12 := h.2.2.2.2.1
        rw [len] at hi
        by_cases z : i = L.length
        · subst z
          rw [gr, p1 b (Nat.zero_le _) hb]
        · rw [gl i (by omega), p2 _ (Or.inl (by omega))]
          exact ht.2.1 i (by omega) b hb
      · intro s hs16
        rw [len]
        show _ = oI (if hsL B (L ++ [v]) L.length = s then some L.length else lastH (hsL B (L ++ [v])) s L.length)
        rw [hn, lastH_cg hs]
        by_cases z : s = hshR B v
        · subst z
          rw [pk_us, if_pos rfl]; rfl
        · rw [pk_un z, if_neg (fun y => z y.symm)]
          exact ht.2.2.1 s hs16
      · intro i hi
        rw [len] at hi
        by_cases z : i = L.length
        · subst z
          rw [pk_us, hn, lastH_cg hs]
          exact ht.2.2.1 _ z0
        · rw [pk_un z, hs i (by omega), lastH_cg (fun k hk => hs k (by omega))]
          exact ht.2.2.2 i (by omega)
end
section
/-! The reference's exploration: what its rows hold. A: the moves (stand, move) that were tried, in order. -/
def gt (L : List (Nat → Nat)) (i : Nat) : Nat → Nat := L.getD i (fun _ => 0)
theorem gt_at {L : List (Nat → Nat)} {i : Nat} (hi : i < L.length) : gt L i = L[i] := by
  unfold gt
  rw [List.getD_eq_getElem?_getD, List.getElem?_eq_getElem hi]; rfl
theorem gt_app {L l : List (Nat → Nat)} {i : Nat} (hi : i < L.length) : gt (L ++ l) i = gt L i := by
  rw [gt_at hi, gt_at (by rw [List.length_append]; omega), List.getElem_append_left hi]
theorem gt_new {L : List (Nat → Nat)} {v : Nat → Nat} : gt (L ++ [v]) L.length = v := by
  rw [gt_at (by simp)]; simp
theorem gt_mem {L : List (Nat → Nat)} {i : Nat} (hi : i < L.length) : gt L i ∈ L := by rw [gt_at hi]; exact List.getElem_mem hi
def eR (L : List (Nat → Nat)) (A : List (Nat × Nat)) (ked keb : Nat → Int32) : Prop := ∀ k, (hk : k < A.length) → ∃ i, i < L.length ∧ ked k = nI i ∧ gt L i = tgt (gt L A[k].1) A[k].2 ∧ keb k = nI (A[k].2 / 32)
def lexP (p q : Nat × Nat) : Prop := p.1 < q.1 ∨ (p.1 = q.1 ∧ p.2 < q.2)
def tR (L : List (Nat → Nat)) (A : List (Nat × Nat)) (par mno dep : Nat → Nat) (kdp kpr kbb kby kbs : Nat → Int32) : Prop :=
  dep 0 = 0 ∧ (∀ i, i < L.length → kdp i = nI (dep i) ∧ dep i ≤ i) ∧ ∀ i, 0 < i → i < L.length → (par i, mno i) ∈ A ∧ par i < i ∧ kpr i = nI (par i) ∧ kbb i = nI (mno i / 32) ∧ kby i = nI (mno i / 8 % 4) ∧ kbs i = nI (mno i % 8) ∧ gt L i = tgt (gt L (par i)) (mno i) ∧ dep i = dep (par i) + 1 ∧
    ∀ p, p ∈ A → lexP p (par i, mno i) → ∃ i₉, i₉ < i ∧ gt L i₉ = tgt (gt L p.1) p.2
def rX (L : List (Nat → Nat)) (A : List (Nat × Nat)) (kdp kpr kbb kby kbs ked keb : Nat → Int32) : Prop := (∀ p, p ∈ A → p.1 < L.length) ∧ eR L A ked keb ∧ ∃ par mno dep, tR L A par mno dep kdp kpr kbb kby kbs
theorem eR_ext {L l : List (Nat → Nat)} {A : List (Nat × Nat)} {ked keb : Nat → Int32} {s c i : Nat} (hA : ∀ p, p ∈ A → p.1 < L.length) (h : eR L A ked keb) (hs : s < L.length) (hi : i < (L ++ l).length) (he : gt (L ++ l) i = tgt (gt L s) c) : eR (L ++ l) (A ++ [(s, c)]) (upd ked A.length (nI i)) (upd keb A.length (nI (c / 32))) := by
  intro k hk
  rw [List.length_append, List.length_singleton] at hk
  by_cases e : k = A.length
  · subst e
    have g : (A ++ [(s, c)])[A.length]'(by simp) = (s, c) := by simp
    refine ⟨i, hi, pk_us, ?_, ?_⟩
    · rw [g, he, gt_app hs]
    · rw [g, pk_us]
  · have hk₉ : k < A.length := by omega
    have g : (A ++ [(s, c)])[k]'(by rw [List.length_append]; omega) = A[k] := List.getElem_append_left hk₉
    obtain ⟨i₉, h1, h2, h3, h4⟩ := h k hk₉
    refine ⟨i₉, by rw [List.length_append]; omega, by rw [pk_un e]; exact h2, ?_, by rw [pk_un e, g]; exact h4⟩
    rw [g, gt_app h1, gt_app (hA _ (List.getElem_mem hk₉)), h3]
theorem rX_old {L : List (Nat → Nat)} {A : List (Nat × Nat)} {kdp kpr kbb kby kbs ked keb : Nat → Int32} {s c i : Nat} (h : rX L A kdp kpr kbb kby kbs ked keb) (hs : s < L.length) (hlex : ∀ p, p ∈ A → lexP p (s, c)) (hi : i < L.length) (he : gt L i = tgt (gt L s) c) :
    rX L (A ++ [(s, c)]) kdp kpr kbb kby kbs (upd ked A.length (nI i)) (upd keb A.length (nI (c / 32))) := by
  obtain ⟨h1, h2, par, mno, dep, d0, d1, d2⟩ := h
  refine ⟨?_, ?_, par, mno, dep, d0, d1, ?_⟩
  · intro p hp
    rcases List.mem_append.mp hp with z | z
    · exact h1 p z
    · rw [List.mem_singleton.mp z]; exact hs
  · have := eR_ext (l := []) (i := i) (c := c) h1 h2 hs (by rw [List.append_nil]; exact hi) (by rw [List.append_nil]; exact he)
    rw [List.append_nil] at this
    exact this
  · intro j hj0 hj
    obtain ⟨a1, a2, a3, a4, a5, a6, a7, a8, a9⟩ := d2 j hj0 hj
    refine ⟨List.mem_append_left _ a1, a2, a3, a4, a5, a6, a7, a8, ?_⟩
    intro p hp hl
    rcases List.mem_append.mp hp with z | z
    · exact a9 p z hl
    · rw [List.mem_singleton.mp z] at hl
      have l2 := hlex _ a1
      unfold lexP at hl l2
      simp only at hl l2
      omega
theorem rX_new {L : List (Nat → Nat)} {A : List (Nat × Nat)} {kdp kpr kbb kby kbs ked keb : Nat → Int32} {s c dv : Nat} {v : Nat → Nat} (h : rX L A kdp kpr kbb kby kbs ked keb) (hs : s < L.length) (hlex : ∀ p, p ∈ A → lexP p (s, c)) (hv : v = tgt (gt L s) c) (hd : kdp s = nI dv) (hsz : L.length < 2 ^ 31) :
    rX (L ++ [v]) (A ++ [(s, c)]) (upd kdp L.length (kdp s + 1)) (upd kpr L.length (nI s)) (upd kbb L.length (nI (c / 32))) (upd kby L.length (nI (c / 8 % 4))) (upd kbs L.length (nI (c % 8))) (upd ked A.length (nI L.length)) (upd keb A.length (nI (c / 32))) := by
  obtain ⟨h1, h2, par, mno, dep, d0, d1, d2⟩ := h
  have len : (L ++ [v]).length = L.length + 1 := by simp
  have l0 : 0 < L.length := by omega
  refine ⟨?_, ?_, updN par L.length s, updN mno L.length c, updN dep L.length (dep s + 1), ?_, ?_, ?_⟩
  · intro p hp
    rw [len]
    rcases List.mem_append.mp hp with z | z
    · have := h1 p z; omega
    · rw [List.mem_singleton.mp z]; show s < _; omega
  · exact eR_ext h1 h2 hs (by rw [len]; omega) (by rw [gt_new, hv])
  · rw [updN_n (by omega)]; exact d0
  · intro i hi
    rw [len] at hi
    by_cases e : i = L.length
    · subst e
      rw [pk_us, updN_s, (d1 s hs).1, nI_1]
      have := (d1 s hs).2
      exact ⟨rfl, by omega⟩
    · rw [pk_un e, updN_n e]; exact d1 i (by omega)
  · intro i hi0 hi
    rw [len] at hi
    by_cases e : i = L.length
    · subst e
      simp only [pk_us, updN_s]
      refine ⟨by simp, hs, trivial, trivial, trivial, trivial, ?_, ?_, ?_⟩
      · rw [gt_new, gt_app hs, hv]
      · rw [updN_n (by omega)]
      · intro p hp hl
        rcases List.mem_append.mp hp with z | z
        · obtain ⟨k, hk, ek⟩ := List.getElem_of_mem z
          obtain ⟨i₉, q1, q2, q3, q4⟩ := h2 k hk
          rw [ek] at q3
          exact ⟨i₉, q1, by rw [gt_app q1, gt_app (h1 p z)]; exact q3⟩
        · rw [List.mem_singleton.mp z] at hl
          unfold lexP at hl
          simp only at hl
          omega
    · obtain ⟨a1, a2, a3, a4, a5, a6, a7, a8, a9⟩ := d2 i hi0 (by omega)
      rw [pk_un e, pk_un e, pk_un e, pk_un e, updN_n e, updN_n e, updN_n e, updN_n (show par i ≠ L.length by omega)]
      refine ⟨List.mem_append_left _ a1, a2, a3, a4, a5, a6, ?_, a8, ?_⟩
      · rw [gt_app (show i < L.length by omega), gt_app (show par i < L.length by omega)]; exact a7
      · intro p hp hl
        rcases List.mem_append.mp hp with z | z
        · obtain ⟨i₉, q1, q2⟩ := a9 p z hl
          exact ⟨i₉, q1, by rw [gt_app (show i₉ < L.length by omega), gt_app (h1 p z)]; exact q2⟩
        · rw [List.mem_singleton.mp z] at hl
          have l2 := hlex _ a1
          unfold lexP at hl l2
          simp only at hl l2
          omega
end
section
/-! goesOn of the reference. -/
def xS (B : Bas) (L : List (Nat → Nat)) (A : List (Nat × Nat)) (kpl khd kch kdp kpr kbb kby kbs ked keb : Nat → Int32) : Prop := rTab B L kpl khd kch ∧ rX L A kdp kpr kbb kby kbs ked keb
def cdR (b d k r : Nat) : List Nat := (List.range' k r).map fun j => 32 * b + 8 * d + (j + 1)
def prs (s : Nat) (cs : List Nat) : List (Nat × Nat) := cs.map fun c => (s, c)
theorem cdR_s {b d k r : Nat} : cdR b d k (r + 1) = (32 * b + 8 * d + (k + 1)) :: cdR b d (k + 1) r := by
  unfold cdR
  rw [List.range'_succ, List.map_cons]
theorem lexP_up {p : Nat × Nat} {s c : Nat} (h : lexP p (s, c)) : lexP p (s, c + 1) := by
  unfold lexP at *
  simp only at *
  omega
theorem m_goL14 {B : Bas} {most s b d : Nat} {P : Nat → Nat} {v5 : Int32} {kwl kk ks ky : Nat → Int32} (h : basOk B) (hr : rfB B kk ks ky) (hwl : rfW B kwl) (hb : b < bn B) (hd : d < 4) (hP : stC B P) (hm : most ≤ 7) :
    ∀ (r k n : Nat) (L : List (Nat → Nat)) (A : List (Nat × Nat)) (kpl khd kch kdp kpr kbb kby kbs ked keb kwho kh : Nat → Int32), k + r = min most (room B P b d false) → r < n → s < L.length → gt L s = P → L.length ≤ 6000 → A.length + r ≤ 1010000 → (∀ p, p ∈ A → lexP p (s, 32 * b + 8 * d + (k + 1))) →
      xS B L A kpl khd kch kdp kpr kbb kby kbs ked keb → rfO B (updN P b (nxtk d (P b) k)) kwho → chP B (updN P b (nxtk d (P b) k)) kh →
      ∃ (well : Bool) (st ed : Int32) (kpl₉ khd₉ kch₉ kdp₉ kpr₉ kbb₉ kby₉ kbs₉ ked₉ keb₉ kwho₉ kh₉ : Nat → Int32) (k₉ : Nat), f_BargeBasinModel_goesOn_L14 (nI s) (nI b) (nI d) (nI most) v5 (nI (bw B)) (nI (bh B)) (nI (bn B)) kwl kk ks ky n 1 (nI k) (nI L.length) (nI A.length) kpl khd kch kdp kpr kbb kby kbs ked keb kwho kh = some (bI well, st, ed, kpl₉, khd₉, kch₉, kdp₉, kpr₉, kbb₉, kby₉, kbs₉, ked₉, keb₉, kwho₉, kh₉) ∧
        k₉ ≤ room B P b d false ∧ rfO B (updN P b (nxtk d (P b) k₉)) kwho₉ ∧ chP B (updN P b (nxtk d (P b) k₉)) kh₉ ∧
        (well = true → (((cdR b d k r).map (tgt P)).foldl meetL L).length ≤ 6000 ∧ st = nI (((cdR b d k r).map (tgt P)).foldl meetL L).length ∧ ed = nI (A ++ prs s (cdR b d k r)).length ∧ xS B (((cdR b d k r).map (tgt P)).foldl meetL L) (A ++ prs s (cdR b d k r)) kpl₉ khd₉ kch₉ kdp₉ kpr₉ kbb₉ kby₉ kbs₉ ked₉ keb₉) ∧
        (well = false → 6000 < (((cdR b d k r).map (tgt P)).foldl meetL L).length) := by
  have r7 := room_le (B := B) (P := P) (b := b) (d := d) (bk := false)
  obtain ⟨b12, -⟩ := basOk_wh h hb
  intro r
  induction r with
  | zero =>
    intro k n L A kpl khd kch kdp kpr kbb kby kbs ked keb kwho kh h1 h2 h3 h4 h5 h6 h7 h8 h9 h10
    obtain ⟨n, rfl⟩ : ∃ z, n = z + 1 := ⟨n - 1, by omega⟩
    refine ⟨true, nI L.length, nI A.length, kpl, khd, kch, kdp, kpr, kbb, kby, kbs, ked, keb, kwho, kh, k, ?_, by omega, h9, h10, ?_, fun z => by cases z⟩
    · rw [f_BargeBasinModel_goesOn_L14, if_neg (show ¬ (1 : Int32) = 0 by decide)]
      by_cases e : most ≤ k
      · rw [if_pos (nI_le e (by omega))]; rfl
      · have hk : k = room B P b d false := by omega
        have hs := (room_st (bk := false) h hP.1 hb hd (k := k) (by omega)).1
        have ne : hnd B (updN P b (nxtk d (P b) k)) b d (updN P b (nxtk d (P b) k) b) false ≠ 0 := by
          rw [hnd_upd, updN_s]
          rcases roomA_end (hn := fun q => hnd B P b d q false) (d := d) (m := 7) (q := P b) with z | z
          · have : room B P b d false = 7 := z
            omega
          · rw [hk]; exact z
        have lt := hnd_lt (B := B) (P := updN P b (nxtk d (P b) k)) (b := b) (d := d) (q := updN P b (nxtk d (P b) k) b) (bk := false)
        rw [if_neg (nI_ge (by omega) (by omega)), ev_b _ (m_hnd h hs hr hwl h9 h10 hb hd), if_neg (nI_ne0 (by omega) (by omega))]; rfl
    · intro _
      simp only [cdR, prs, List.range'_zero, List.map_nil, List.foldl_nil, List.append_nil]
      exact ⟨h5, trivial, trivial, h8⟩
  | succ r ih =>
    intro k n L A kpl khd kch kdp kpr kbb kby kbs ked keb kwho kh h1 h2 h3 h4 h5 h6 h7 h8 h9 h10
    obtain ⟨n, rfl⟩ : ∃ z, n = z + 1 := ⟨n - 1, by omega⟩
    have hs := (room_st (bk := false) h hP.1 hb hd (k := k) (by omega)).1
    have w0 : hnd B (updN P b (nxtk d (P b) k)) b d (updN P b (nxtk d (P b) k) b) false = 0 := by
      rw [hnd_upd, updN_s]
      exact room_way (by omega)
    obtain ⟨kwho1, e1, o1⟩ := m_step h hs hr h9 h10 hb hd w0
    have pos : updN (updN P b (nxtk d (P b) k)) b (nxt d (updN P b (nxtk d (P b) k) b)) = updN P b (nxtk d (P b) (k + 1)) := by rw [updN_two, updN_s, nxtk_s]
    rw [pos] at o1
    have c1 : chP B (updN P b (nxtk d (P b) (k + 1))) (upd kh b (nI (nxt d (updN P b (nxtk d (P b) k) b)))) := by
      rw [← pos]; exact chP_upd h10
    have tg : tgt P (32 * b + 8 * d + (k + 1)) = updN P b (nxtk d (P b) (k + 1)) := tgt_code hd (by omega)
    have mc := mv_code (b := b) (d := d) (k := k + 1) hd (by omega)
    have sv : stC B (updN P b (nxtk d (P b) (k + 1))) := by
      exact ⟨(room_st (bk := false) h hP.1 hb hd (k := k + 1) (by omega)).1, gl_mv (bk := false) h hP hb hd (by omega)⟩
    have lx : ∀ p, p ∈ A ++ [(s, 32 * b + 8 * d + (k + 1))] → lexP p (s, 32 * b + 8 * d + (k + 1 + 1)) := by
      intro p hp
      rcases List.mem_append.mp hp with z | z
      · exact lexP_up (h7 p z)
      · rw [List.mem_singleton.mp z]; exact Or.inr ⟨rfl, by show _ < _; omega⟩
    have pre : ∀ (X : Option (Int32 × Int32 × Int32 × (Nat → Int32) × (Nat → Int32) × (Nat → Int32) × (Nat → Int32) × (Nat → Int32) × (Nat → Int32) × (Nat → Int32) × (Nat → Int32) × (Nat → Int32) × (Nat → Int32) × (Nat → Int32) × (Nat → Int32))),
        (jb (f_BargeBasinModel_numberOf (nI (bn B)) (nI L.length) kpl khd kch (upd kh b (nI (nxt d (updN P b (nxtk d (P b) k) b))))) (un5 (fun r_14 k_stands_15 k_places_16 k_heads_17 k_chain_18 => if k_stands_15 ≤ nI L.length then f_BargeBasinModel_goesOn_L14 (nI s) (nI b) (nI d) (nI most) v5 (nI (bw B)) (nI (bh B)) (nI (bn B)) kwl kk ks ky n 1 (nI (k + 1)) k_stands_15 (nI (A.length + 1)) k_places_16 k_heads_17 k_chain_18 kdp kpr kbb kby kbs (upd ked A.length r_14) (upd keb A.length (nI b)) kwho1 (upd kh b (nI (nxt d (updN P b (nxtk d (P b) k) b)))) else if ((6000 : Int32)) < k_stands_15 then f_BargeBasinModel_goesOn_J112 (f_BargeBasinModel_goesOn_L14 (nI s) (nI b) (nI d) (nI most) v5 (nI (bw B)) (nI (bh B)) (nI (bn B)) kwl kk ks ky n) (nI s) (nI b) (nI d) (nI most) v5 (nI (k + 1)) r_14 ((0 : Int32)) k_stands_15 (nI (A.length + 1)) k_places_16 k_heads_17 k_chain_18 kdp kpr kbb kby kbs (upd ked A.length r_14) (upd keb A.length (nI b)) kwho1 (upd kh b (nI (nxt d (updN P b (nxtk d (P b) k) b)))) else f_BargeBasinModel_goesOn_J112 (f_BargeBasinModel_goesOn_L14 (nI s) (nI b) (nI d) (nI most) v5 (nI (bw B)) (nI (bh B)) (nI (bn B)) kwl kk ks ky n) (nI s) (nI b) (nI d) (nI most) v5 (nI (k + 1)) r_14 ((1 : Int32)) k_stands_15 (nI (A.length + 1)) k_places_16 k_heads_17 k_chain_18 kdp kpr kbb kby kbs (upd ked A.length r_14) (upd keb A.length (nI b)) kwho1 (upd kh b (nI (nxt d (updN P b (nxtk d (P b) k) b))))))) = X →
        f_BargeBasinModel_goesOn_L14 (nI s) (nI b) (nI d) (nI most) v5 (nI (bw B)) (nI (bh B)) (nI (bn B)) kwl kk ks ky (n + 1) 1 (nI k) (nI L.length) (nI A.length) kpl khd kch kdp kpr kbb kby kbs ked keb kwho kh = X := by
      intro X hX
      rw [f_BargeBasinModel_goesOn_L14, if_neg (show ¬ (1 : Int32) = 0 by decide), if_neg (nI_ge (show k < most by omega) (by omega)), ev_b _ (m_hnd h hs hr hwl h9 h10 hb hd), w0, nI_0, if_pos rfl, ev_b _ e1, un2_ap, ev_bnd, nI_1]
      rw [← hX]
      simp only [ev_grdN _ (show A.length < 1010000 by omega) (show 1010000 < 2 ^ 31 by decide), ev_bnd, nI_1, nI_clamp (show A.length < 2 ^ 31 by omega), byte64 b (by omega)]
    obtain ⟨t1, t2⟩ := id h8
    rw [cdR_s]
    simp only [List.map_cons, List.foldl_cons, prs]
    rw [tg]
    rcases m_numberOf h t1 h5 c1 sv with ⟨i, hi, ei, en⟩ | ⟨nm, kpl1, khd1, kch1, en, t1₉⟩
    · have x1 := rX_old (c := 32 * b + 8 * d + (k + 1)) t2 h3 h7 hi (by rw [gt_at hi, ei, h4, tg])
      rw [mc.1] at x1
      have mm : meetL L (updN P b (nxtk d (P b) (k + 1))) = L := meetL_in (by rw [← ei]; exact List.getElem_mem hi)
      obtain ⟨well, st, ed, a1, a2, a3, a4, a5, a6, a7, a8, a9, a10, a11, a12, k₉, q1, q2, q3, q4, q5, q6⟩ := ih (k + 1) n L (A ++ [(s, 32 * b + 8 * d + (k + 1))]) kpl khd kch kdp kpr kbb kby kbs (upd ked A.length (nI i)) (upd keb A.length (nI b)) kwho1 _ (by omega) (by omega) h3 h4 h5 (by rw [List.length_append, List.length_singleton]; omega) lx ⟨t1, x1⟩ o1 c1
      refine ⟨well, st, ed, a1, a2, a3, a4, a5, a6, a7, a8, a9, a10, a11, a12, k₉, ?_, q2, q3, q4, ?_, ?_⟩
      · apply pre
        rw [List.length_append, List.length_singleton] at q1
        rw [ev_b _ en, un5_ap, if_pos (nI_le (Nat.le_refl _) (by omega)), q1]
      · intro z
        obtain ⟨y1, y2, y3, y4⟩ := q5 z
        rw [mm]
        rw [List.append_assoc] at y3 y4
        exact ⟨y1, y2, y3, y4⟩
      · intro z
        rw [mm]; exact q6 z
    · have mm : meetL L (updN P b (nxtk d (P b) (k + 1))) = L ++ [updN P b (nxtk d (P b) (k + 1))] := meetL_out nm
      obtain ⟨-, -, par, mno, dep, -, dd, -⟩ := id t2
      have x1 := rX_new (c := 32 * b + 8 * d + (k + 1)) (v := updN P b (nxtk d (P b) (k + 1))) t2 h3 h7 (by rw [h4, tg]) (dd s h3).1 (by omega)
      rw [mc.1, mc.2.1, mc.2.2] at x1
      have len : (L ++ [updN P b (nxtk d (P b) (k + 1))]).length = L.length + 1 := by simp
      have J : ∀ z : Int32, f_BargeBasinModel_goesOn_J112 (f_BargeBasinModel_goesOn_L14 (nI s) (nI b) (nI d) (nI most) v5 (nI (bw B)) (nI (bh B)) (nI (bn B)) kwl kk ks ky n) (nI s) (nI b) (nI d) (nI most) v5 (nI (k + 1)) (nI L.length) z (nI (L.length + 1)) (nI (A.length + 1)) kpl1 khd1 kch1 kdp kpr kbb kby kbs (upd ked A.length (nI L.length)) (upd keb A.length (nI b)) kwho1 (upd kh b (nI (nxt d (updN P b (nxtk d (P b) k) b)))) =
          f_BargeBasinModel_goesOn_L14 (nI s) (nI b) (nI d) (nI most) v5 (nI (bw B)) (nI (bh B)) (nI (bn B)) kwl kk ks ky n z (nI (k + 1)) (nI (L.length + 1)) (nI (A.length + 1)) kpl1 khd1 kch1 (upd kdp L.length (kdp s + 1)) (upd kpr L.length (nI s)) (upd kbb L.length (nI b)) (upd kby L.length (nI d)) (upd kbs L.length (nI (k + 1))) (upd ked A.length (nI L.length)) (upd keb A.length (nI b)) kwho1 (upd kh b (nI (nxt d (updN P b (nxtk d (P b) k) b)))) := by
        intro z
        unfold f_BargeBasinModel_goesOn_J112
        simp only [ev_grdN _ (show s < 6001 by omega) (show 6001 < 2 ^ 31 by decide), ev_grdN _ (show L.length < 6001 by omega) (show 6001 < 2 ^ 31 by decide), ev_bnd, nI_clamp (show s < 2 ^ 31 by omega), nI_clamp (show L.length < 2 ^ 31 by omega)]
      by_cases c6 : L.length = 6000
      · refine ⟨false, nI (L.length + 1), nI (A.length + 1), kpl1, khd1, kch1, upd kdp L.length (kdp s + 1), upd kpr L.length (nI s), upd kbb L.length (nI b), upd kby L.length (nI d), upd kbs L.length (nI (k + 1)), upd ked A.length (nI L.length), upd keb A.length (nI b), kwho1, upd kh b (nI (nxt d (updN P b (nxtk d (P b) k) b))), k + 1, ?_, by omega, o1, c1, fun z => by (cases z), fun _ => ?_⟩
        · apply pre
          rw [ev_b _ en, un5_ap, len, if_neg (nI_ge (by omega) (by omega)), if_pos (show (6000 : Int32) < nI (L.length + 1) from nI_lt (a := 6000) (by omega) (by omega)), J]
          obtain ⟨m, rfl⟩ : ∃ m, n = m + 1 := ⟨n - 1, by omega⟩
          rw [f_BargeBasinModel_goesOn_L14, if_pos rfl]; rfl
        · rw [mm]
          have := foldL_len ((cdR b d (k + 1) r).map (tgt P)) (L ++ [updN P b (nxtk d (P b) (k + 1))])
          rw [len] at this
          omega
      · obtain ⟨well, st, ed, a1, a2, a3, a4, a5, a6, a7, a8, a9, a10, a11, a12, k₉, q1, q2, q3, q4, q5, q6⟩ := ih (k + 1) n (L ++ [updN P b (nxtk d (P b) (k + 1))]) (A ++ [(s, 32 * b + 8 * d + (k + 1))]) kpl1 khd1 kch1 _ _ _ _ _ _ _ kwho1 _ (by omega) (by omega) (by rw [len]; omega) (by rw [gt_app h3]; exact h4) (by rw [len]; omega) (by rw [List.length_append, List.length_singleton]; omega) lx ⟨t1₉, x1⟩ o1 c1
        refine ⟨well, st, ed, a1, a2, a3, a4, a5, a6, a7, a8, a9, a10, a11, a12, k₉, ?_, q2, q3, q4, ?_, ?_⟩
        · apply pre
          rw [len, List.length_append, List.length_singleton] at q1
          rw [ev_b _ en, un5_ap, len, if_neg (nI_ge (by omega) (by omega)), if_neg (show ¬ (6000 : Int32) < nI (L.length + 1) from nI_nlt (a := 6000) (by omega) (by decide)), J, q1]
        · intro z
          obtain ⟨y1, y2, y3, y4⟩ := q5 z
          rw [mm]
          rw [List.append_assoc] at y3 y4
          exact ⟨y1, y2, y3, y4⟩
        · intro z
          rw [mm]; exact q6 z
theorem m_goesOn {B : Bas} {most s b d : Nat} {P : Nat → Nat} {L : List (Nat → Nat)} {A : List (Nat × Nat)} {kwl kk ks ky kpl khd kch kdp kpr kbb kby kbs ked keb kwho kh : Nat → Int32} (h : basOk B) (hr : rfB B kk ks ky) (hwl : rfW B kwl) (hb : b < bn B) (hd : d < 4) (hP : stC B P) (hm : most ≤ 7)
    (h3 : s < L.length) (h4 : gt L s = P) (h5 : L.length ≤ 6000) (h6 : A.length + (mvD B P most false b d).length ≤ 1010000) (h7 : ∀ p, p ∈ A → lexP p (s, 32 * b + 8 * d + 1)) (h8 : xS B L A kpl khd kch kdp kpr kbb kby kbs ked keb) (h9 : rfO B P kwho) (h10 : chP B P kh) :
    ∃ (well : Bool) (st ed : Int32) (kpl₉ khd₉ kch₉ kdp₉ kpr₉ kbb₉ kby₉ kbs₉ ked₉ keb₉ kwho₉ kh₉ : Nat → Int32), f_BargeBasinModel_goesOn (nI s) (nI b) (nI d) (nI most) (nI (bw B)) (nI (bh B)) (nI (bn B)) (nI L.length) (nI A.length) kwl kk ks ky kpl khd kch kdp kpr kbb kby kbs ked keb kwho kh = some (bI well, st, ed, kpl₉, khd₉, kch₉, kdp₉, kpr₉, kbb₉, kby₉, kbs₉, ked₉, keb₉, kwho₉, kh₉) ∧
      rfO B P kwho₉ ∧ chP B P kh₉ ∧
      (well = true → (((mvD B P most false b d).map (tgt P)).foldl meetL L).length ≤ 6000 ∧ st = nI (((mvD B P most false b d).map (tgt P)).foldl meetL L).length ∧ ed = nI (A ++ prs s (mvD B P most false b d)).length ∧ xS B (((mvD B P most false b d).map (tgt P)).foldl meetL L) (A ++ prs s (mvD B P most false b d)) kpl₉ khd₉ kch₉ kdp₉ kpr₉ kbb₉ kby₉ kbs₉ ked₉ keb₉) ∧
      (well = false → 6000 < (((mvD B P most false b d).map (tgt P)).foldl meetL L).length) := by
  obtain ⟨b12, -⟩ := basOk_wh h hb
  have cd : cdR b d 0 (min most (room B P b d false)) = mvD B P most false b d := by
    unfold cdR mvD
    rw [← List.range_eq_range']
  have ml : (mvD B P most false b d).length = min most (room B P b d false) := by simp [mvD]
  have z0 : updN P b (nxtk d (P b) 0) = P := updN_self
  obtain ⟨well, st, ed, a1, a2, a3, a4, a5, a6, a7, a8, a9, a10, a11, a12, k₉, q1, q2, q3, q4, q5, q6⟩ := m_goL14 (s := s) (v5 := nI (P b)) h hr hwl hb hd hP hm (min most (room B P b d false)) 0 jN L A kpl khd kch kdp kpr kbb kby kbs ked keb kwho kh (by omega) (by show _ < 2000000; omega) h3 h4 h5 (by omega) (by simpa using h7) h8 (by rw [z0]; exact h9) (by rw [z0]; exact h10)
  rw [cd] at q5 q6
  have hs := (room_st (bk := false) h hP.1 hb hd (k := k₉) q2).1
  have i1 := hs.1 b hb
  have i0 := hP.1.1 b hb
  have back : updN (updN P b (nxtk d (P b) k₉)) b (P b) = P := by rw [updN_two]; exact updN_self
  have lw := lay_who (b := b) (q := P b) hs (by rw [back]; exact hP.1) hb q3
  rw [back] at lw
  refine ⟨well, st, ed, a1, a2, a3, a4, a5, a6, a7, a8, a9, a10, _, upd a12 b (nI (P b)), ?_, lw, ?_, q5, q6⟩
  · unfold f_BargeBasinModel_goesOn
    rw [nI_0] at q1
    rw [ev_grdN _ b12 (by decide), ev_bnd, cl_nI b12, h10 b hb, ev_b _ q1, un15_ap]
    unfold f_BargeBasinModel_goesOn_J165
    rw [ev_grdN _ b12 (by decide), cl_nI b12, q4 b hb, ev_b _ (m_layB h hr hb i1.1 i1.2 _), ev_grdN _ b12 (by decide), ev_b _ (m_layB h hr hb i0.1 i0.2 _), ev_bool _ (bI_01 _)]
  · have := chP_upd (b := b) (q := P b) q4
    rw [back] at this
    exact this
end
section
/-! looksAtAll of the reference: its loops. -/
theorem room_two {B : Bas} {P : Nat → Nat} {b : Nat} {bk : Bool} (h : basOk B) (hs : stOk B P) (hb : b < bn B) : room B P b 1 bk + room B P b 3 bk ≤ 7 ∧ room B P b 0 bk + room B P b 2 bk ≤ 7 := by
  have x1 := (room_xy (bk := bk) h hs hb (show 1 < 4 by decide) (Nat.le_refl _)).1
  have x3 := (room_xy (bk := bk) h hs hb (show 3 < 4 by decide) (Nat.le_refl _)).1
  have y0 := (room_xy (bk := bk) h hs hb (show 0 < 4 by decide) (Nat.le_refl _)).2
  have y2 := (room_xy (bk := bk) h hs hb (show 2 < 4 by decide) (Nat.le_refl _)).2
  have s1 := (room_st (bk := bk) h hs hb (show 1 < 4 by decide) (Nat.le_refl _)).1.1 b hb
  have s2 := (room_st (bk := bk) h hs hb (show 2 < 4 by decide) (Nat.le_refl _)).1.1 b hb
  rw [updN_s] at s1 s2
  obtain ⟨a1, a2, a3, a4, a5, a6, a7, a8⟩ := basOk_wh h hb
  have w8 := h.2.1
  have h8 := h.2.2.2.1
  simp only [dxI, dyI] at x1 x3 y0 y2
  simp at x1 x3 y0 y2
  omega
theorem flat_len {α : Type} {l : List Nat} {f : Nat → List α} {m : Nat} (h : ∀ x, x ∈ l → (f x).length ≤ m) : (l.flatMap f).length ≤ m * l.length := by
  induction l with
  | nil => simp
  | cons x l ih =>
    rw [List.flatMap_cons, List.length_append, List.length_cons, Nat.mul_succ]
    have h1 := h x List.mem_cons_self
    have h2 := ih (fun y hy => h y (List.mem_cons_of_mem _ hy))
    omega
theorem mvs_168 {B : Bas} {P : Nat → Nat} {most : Nat} {bk : Bool} (h : basOk B) (hs : stOk B P) : (mvs B P most bk).length ≤ 168 := by
  have n12 := h.2.2.2.2.1
  have := flat_len (l := List.range (bn B)) (f := mvB B P most bk) (m := 14) (by
    intro b hb
    rw [List.mem_range] at hb
    obtain ⟨r1, r2⟩ := room_two (bk := bk) h hs hb
    have l : ∀ d, (mvD B P most bk b d).length = min most (room B P b d bk) := by intro d; simp [mvD]
    unfold mvB
    rw [show List.range 4 = [0, 1, 2, 3] from rfl]
    simp only [List.flatMap_cons, List.flatMap_nil, List.length_append, l, List.length_nil]
    omega)
  rw [List.length_range] at this
  show ((List.range (bn B)).flatMap (mvB B P most bk)).length ≤ 168
  omega
theorem prs_app {s : Nat} {x y : List Nat} : prs s (x ++ y) = prs s x ++ prs s y := by unfold prs; rw [List.map_append]
theorem prs_len {s : Nat} {x : List Nat} : (prs s x).length = x.length := by unfold prs; rw [List.length_map]
theorem prs_mem {s : Nat} {x : List Nat} {p : Nat × Nat} (h : p ∈ prs s x) : p.1 = s ∧ p.2 ∈ x := by
  unfold prs at h
  obtain ⟨c, hc, e⟩ := List.mem_map.mp h
  rw [← e]; exact ⟨rfl, hc⟩
theorem mvD_rng {B : Bas} {P : Nat → Nat} {most b d c : Nat} {bk : Bool} (h : c ∈ mvD B P most bk b d) : 32 * b + 8 * d < c ∧ c < 32 * b + 8 * d + 8 := by
  have := room_le (B := B) (P := P) (b := b) (d := d) (bk := bk)
  simp only [mvD, List.mem_map, List.mem_range] at h
  obtain ⟨k, hk, e⟩ := h
  omega
/-- the state within stand s: the codes cs of its moves were tried -/
def inS2 (B : Bas) (P : Nat → Nat) (s : Nat) (L0 : List (Nat → Nat)) (A0 : List (Nat × Nat)) (cs : List Nat) (st ed : Int32) (kpl khd kch kdp kpr kbb kby kbs ked keb kwho kh : Nat → Int32) : Prop :=
  ((cs.map (tgt P)).foldl meetL L0).length ≤ 6000 ∧ st = nI ((cs.map (tgt P)).foldl meetL L0).length ∧ ed = nI (A0 ++ prs s cs).length ∧ xS B ((cs.map (tgt P)).foldl meetL L0) (A0 ++ prs s cs) kpl khd kch kdp kpr kbb kby kbs ked keb ∧ rfO B P kwho ∧ chP B P kh
theorem fold_more {P : Nat → Nat} {L0 : List (Nat → Nat)} {xs ys : List Nat} (h : 6000 < ((xs.map (tgt P)).foldl meetL L0).length) : 6000 < (((xs ++ ys).map (tgt P)).foldl meetL L0).length := by
  rw [List.map_append, List.foldl_append]
  have := foldL_len (ys.map (tgt P)) ((xs.map (tgt P)).foldl meetL L0)
  omega
theorem m_lkL106 {B : Bas} {most s b : Nat} {P : Nat → Nat} {L0 : List (Nat → Nat)} {A0 : List (Nat × Nat)} {kwl kk ks ky : Nat → Int32} (h : basOk B) (hr : rfB B kk ks ky) (hwl : rfW B kwl) (hb : b < bn B) (hP : stC B P) (hm : most ≤ 7) (hs : s < L0.length) (hg : gt L0 s = P) (hA0 : ∀ p, p ∈ A0 → p.1 < s) :
    ∀ (r d n : Nat) (cs : List Nat) (st ed : Int32) (kpl khd kch kdp kpr kbb kby kbs ked keb kwho kh : Nat → Int32), d + r = 4 → r < n → (∀ c, c ∈ cs → c < 32 * b + 8 * d + 1) → A0.length + cs.length + ((List.range' d r).flatMap (mvD B P most false b)).length ≤ 1010000 → inS2 B P s L0 A0 cs st ed kpl khd kch kdp kpr kbb kby kbs ked keb kwho kh →
      ∃ x, f_BargeBasinModel_looksAtAll_L106 (nI most) (nI s) (nI b) (nI (bw B)) (nI (bh B)) (nI (bn B)) kwl kk ks ky n (nI d) st ed kpl khd kch kdp kpr kbb kby kbs ked keb kwho kh = some x ∧
        ((∃ st₉ ed₉ kpl₉ khd₉ kch₉ kdp₉ kpr₉ kbb₉ kby₉ kbs₉ ked₉ keb₉ kwho₉ kh₉, x = .inr (st₉, ed₉, kpl₉, khd₉, kch₉, kdp₉, kpr₉, kbb₉, kby₉, kbs₉, ked₉, keb₉, kwho₉, kh₉) ∧ inS2 B P s L0 A0 (cs ++ (List.range' d r).flatMap (mvD B P most false b)) st₉ ed₉ kpl₉ khd₉ kch₉ kdp₉ kpr₉ kbb₉ kby₉ kbs₉ ked₉ keb₉ kwho₉ kh₉) ∨
         ((∃ y, x = .inl y) ∧ 6000 < (((cs ++ (List.range' d r).flatMap (mvD B P most false b)).map (tgt P)).foldl meetL L0).length)) := by
  intro r
  induction r with
  | zero =>
    intro d n cs st ed kpl khd kch kdp kpr kbb kby kbs ked keb kwho kh h1 h2 h3 h4 h5
    obtain ⟨n, rfl⟩ : ∃ z, n = z + 1 := ⟨n - 1, by omega⟩
    refine ⟨.inr (st, ed, kpl, khd, kch, kdp, kpr, kbb, kby, kbs, ked, keb, kwho, kh), ?_, Or.inl ⟨st, ed, kpl, khd, kch, kdp, kpr, kbb, kby, kbs, ked, keb, kwho, kh, rfl, by simpa using h5⟩⟩
    rw [f_BargeBasinModel_looksAtAll_L106, if_pos (show (4 : Int32) ≤ nI d from nI_le (a := 4) (by omega) (by omega))]
  | succ r ih =>
    intro d n cs st ed kpl khd kch kdp kpr kbb kby kbs ked keb kwho kh h1 h2 h3 h4 h5
    obtain ⟨n, rfl⟩ : ∃ z, n = z + 1 := ⟨n - 1, by omega⟩
    obtain ⟨i1, i2, i3, i4, i5, i6⟩ := h5
    subst i2; subst i3
    rw [List.range'_succ, List.flatMap_cons] at h4 ⊢
    rw [List.length_append] at h4
    obtain ⟨l, el⟩ := foldL_pre (cs.map (tgt P)) L0
    obtain ⟨well, st1, ed1, a1, a2, a3, a4, a5, a6, a7, a8, a9, a10, a11, a12, q1, q2, q3, q4, q5⟩ := m_goesOn (s := s) (d := d) h hr hwl hb (by omega) hP hm (by rw [el, List.length_append]; omega) (by rw [el, gt_app hs]; exact hg) i1 (by rw [List.length_append, prs_len]; omega) (by
      intro p hp
      rcases List.mem_append.mp hp with z | z
      · exact Or.inl (hA0 p z)
      · obtain ⟨z1, z2⟩ := prs_mem z
        exact Or.inr ⟨z1, h3 _ z2⟩) i4 i5 i6
    have fl : ((cs ++ mvD B P most false b d).map (tgt P)).foldl meetL L0 = ((mvD B P most false b d).map (tgt P)).foldl meetL ((cs.map (tgt P)).foldl meetL L0) := by rw [List.map_append, List.foldl_append]
    rw [f_BargeBasinModel_looksAtAll_L106, if_neg (show ¬ (4 : Int32) ≤ nI d from nI_ge (b := 4) (by omega) (by decide)), ev_b _ q1, un15_ap]
    cases well with
    | false =>
      rw [if_pos (show bI false = 0 by decide)]
      refine ⟨_, rfl, Or.inr ⟨⟨_, rfl⟩, ?_⟩⟩
      have := q5 rfl
      rw [← fl] at this
      rw [← List.append_assoc]
      exact fold_more this
    | true =>
      rw [if_neg (show ¬ bI true = 0 by decide), ev_bnd, nI_1]
      obtain ⟨y1, y2, y3, y4⟩ := q4 rfl
      rw [← fl, List.append_assoc, ← prs_app] at y4
      rw [← fl] at y1 y2
      rw [List.append_assoc, ← prs_app] at y3
      have := ih (d + 1) n (cs ++ mvD B P most false b d) st1 ed1 a1 a2 a3 a4 a5 a6 a7 a8 a9 a10 a11 a12 (by omega) (by omega) (by
        intro c hc
        rcases List.mem_append.mp hc with z | z
        · have := h3 c z; omega
        · have := mvD_rng z; omega) (by rw [List.length_append]; omega) ⟨y1, y2, y3, y4, q2, q3⟩
      rw [List.append_assoc] at this
      exact this
theorem m_lkL94 {B : Bas} {most s : Nat} {P : Nat → Nat} {L0 : List (Nat → Nat)} {A0 : List (Nat × Nat)} {kwl kk ks ky : Nat → Int32} (h : basOk B) (hr : rfB B kk ks ky) (hwl : rfW B kwl) (hP : stC B P) (hm : most ≤ 7) (hs : s < L0.length) (hg : gt L0 s = P) (hA0 : ∀ p, p ∈ A0 → p.1 < s) :
    ∀ (r b n : Nat) (cs : List Nat) (st ed : Int32) (kpl khd kch kdp kpr kbb kby kbs ked keb kwho kh : Nat → Int32), b + r = bn B → r < n → (∀ c, c ∈ cs → c < 32 * b + 1) → A0.length + cs.length + ((List.range' b r).flatMap (mvB B P most false)).length ≤ 1010000 → inS2 B P s L0 A0 cs st ed kpl khd kch kdp kpr kbb kby kbs ked keb kwho kh →
      ∃ x, f_BargeBasinModel_looksAtAll_L94 (nI most) (nI s) (nI (bw B)) (nI (bh B)) (nI (bn B)) kwl kk ks ky n (nI b) st ed kpl khd kch kdp kpr kbb kby kbs ked keb kwho kh = some x ∧
        ((∃ st₉ ed₉ kpl₉ khd₉ kch₉ kdp₉ kpr₉ kbb₉ kby₉ kbs₉ ked₉ keb₉ kwho₉ kh₉, x = .inr (st₉, ed₉, kpl₉, khd₉, kch₉, kdp₉, kpr₉, kbb₉, kby₉, kbs₉, ked₉, keb₉, kwho₉, kh₉) ∧ inS2 B P s L0 A0 (cs ++ (List.range' b r).flatMap (mvB B P most false)) st₉ ed₉ kpl₉ khd₉ kch₉ kdp₉ kpr₉ kbb₉ kby₉ kbs₉ ked₉ keb₉ kwho₉ kh₉) ∨
         ((∃ y, x = .inl y) ∧ 6000 < (((cs ++ (List.range' b r).flatMap (mvB B P most false)).map (tgt P)).foldl meetL L0).length)) := by
  have n12 := h.2.2.2.2.1
  intro r
  induction r with
  | zero =>
    intro b n cs st ed kpl khd kch kdp kpr kbb kby kbs ked keb kwho kh h1 h2 h3 h4 h5
    obtain ⟨n, rfl⟩ : ∃ z, n = z + 1 := ⟨n - 1, by omega⟩
    refine ⟨.inr (st, ed, kpl, khd, kch, kdp, kpr, kbb, kby, kbs, ked, keb, kwho, kh), ?_, Or.inl ⟨st, ed, kpl, khd, kch, kdp, kpr, kbb, kby, kbs, ked, keb, kwho, kh, rfl, by simpa using h5⟩⟩
    rw [f_BargeBasinModel_looksAtAll_L94, if_pos (nI_le (by omega) (by omega))]
  | succ r ih =>
    intro b n cs st ed kpl khd kch kdp kpr kbb kby kbs ked keb kwho kh h1 h2 h3 h4 h5
    obtain ⟨n, rfl⟩ : ∃ z, n = z + 1 := ⟨n - 1, by omega⟩
    rw [List.range'_succ, List.flatMap_cons] at h4 ⊢
    rw [List.length_append] at h4
    have mb : (List.range' 0 4).flatMap (mvD B P most false b) = mvB B P most false b := by
      unfold mvB; rw [List.range_eq_range']
    obtain ⟨x, x1, x2⟩ := m_lkL106 (most := most) (b := b) h hr hwl (by omega) hP hm hs hg hA0 4 0 jN cs st ed kpl khd kch kdp kpr kbb kby kbs ked keb kwho kh (by omega) (by decide) (by simpa using h3) (by rw [mb]; omega) h5
    rw [mb] at x2
    rw [nI_0] at x1
    rw [f_BargeBasinModel_looksAtAll_L94, if_neg (nI_ge (by omega) (by omega)), ev_b _ x1]
    rcases x2 with ⟨st1, ed1, a1, a2, a3, a4, a5, a6, a7, a8, a9, a10, a11, a12, ex, q⟩ | ⟨⟨y, ey⟩, q⟩
    · rw [ex, jsel_r, un14_ap, ev_bnd, nI_1]
      have := ih (b + 1) n (cs ++ mvB B P most false b) st1 ed1 a1 a2 a3 a4 a5 a6 a7 a8 a9 a10 a11 a12 (by omega) (by omega) (by
        intro c hc
        rcases List.mem_append.mp hc with z | z
        · have := h3 c z; omega
        · unfold mvB at z
          obtain ⟨d, hd, z2⟩ := List.mem_flatMap.mp z
          rw [List.mem_range] at hd
          have := mvD_rng z2; omega) (by rw [List.length_append]; omega) q
      rw [List.append_assoc] at this
      exact this
    · rw [ey, jsel_l]
      refine ⟨_, rfl, Or.inr ⟨⟨y, rfl⟩, ?_⟩⟩
      rw [← List.append_assoc]
      exact fold_more q
end
section
/-! look, layAll, and looksAtAll of the reference. -/
theorem fb_same {B : Bas} {P : Nat → Nat} : fbOf (bK B) (bS B) (bY B) P = fbA B P := rfl
theorem okB_of {B : Bas} {P : Nat → Nat} (h : basOk B) (hi : insA B P) : okB (bn B) (bK B) (bS B) (bY B) P := by
  refine ⟨h.2.2.2.2.1, fun b hb => ?_⟩
  obtain ⟨a1, a2, a3, a4, a5, a6, a7, a8⟩ := basOk_wh h hb
  have i1 := hi b hb
  have w8 := h.2.1
  have h8 := h.2.2.2.1
  exact ⟨a2, a3, ins_64 h hi hb, show P b % 8 + xW B b ≤ 8 by omega, show P b / 8 + xH B b ≤ 8 by omega⟩
theorem m_layAllB {B : Bas} {P : Nat → Nat} {kk ka ks ky : Nat → Int32} (h : basOk B) (hi : insA B P) (hr : rfB B kk ks ky) (hp : chP B P ka) (kw kh : Nat → Int32) :
    ∃ kw₉ kh₉, f_BargeBasinModel_layAll (nI (bn B)) kk ka ks ky kw kh = some (kw₉, kh₉) ∧ rfO B P kw₉ ∧ chP B P kh₉ := by
  refine ⟨_, _, m_layAll (okB_of h hi) (fun b hb => (hr b hb).1) hp (fun b hb => (hr b hb).2.1) (fun b hb => (hr b hb).2.2) kw kh, ?_, ?_⟩
  · intro f hf
    show (if f < 64 then whoOf (fbA B P) (bn B) f else kw f) = _
    rw [if_pos hf, whoN_oI]
  · intro b hb
    show (if b < bn B then ka b else kh b) = _
    rw [if_pos hb, hp b hb]
theorem m_look {B : Bas} {L : List (Nat → Nat)} {s : Nat} {kk ks ky kpl kwho kh : Nat → Int32} (h : basOk B) (hr : rfB B kk ks ky) (hp : rP B L kpl) (hs : s < L.length) (hl : L.length ≤ 6001) (hP : stC B (gt L s)) :
    ∃ kw₉ kh₉, f_BargeBasinModel_look (nI s) (nI (bn B)) kk ks ky kpl kwho kh = some (kw₉, kh₉) ∧ rfO B (gt L s) kw₉ ∧ chP B (gt L s) kh₉ := by
  have n12 := h.2.2.2.2.1
  have loop : ∀ (r b n : Nat) (kw kh : Nat → Int32), b + r = bn B → r < n → (∀ f, f < 64 → kw f = oI (whoN (fbA B (gt L s)) b f)) → (∀ c, c < b → kh c = nI (gt L s c)) →
      ∃ kw₉ kh₉, f_BargeBasinModel_look_L6 (nI s) (nI (bn B)) kk ks ky kpl n (nI b) kw kh = some (kw₉, kh₉) ∧ rfO B (gt L s) kw₉ ∧ chP B (gt L s) kh₉ := by
    intro r
    induction r with
    | zero =>
      intro b n kw kh h1 h2 h3 h4
      obtain ⟨n, rfl⟩ : ∃ z, n = z + 1 := ⟨n - 1, by omega⟩
      have e : b = bn B := by omega
      subst e
      exact ⟨kw, kh, by rw [f_BargeBasinModel_look_L6, if_pos (nI_le (Nat.le_refl _) (by omega))], h3, h4⟩
    | succ r ih =>
      intro b n kw kh h1 h2 h3 h4
      obtain ⟨n, rfl⟩ : ∃ z, n = z + 1 := ⟨n - 1, by omega⟩
      have hb : b < bn B := by omega
      have i1 := hP.1.1 b hb
      have pv := hp s hs b hb
      rw [← gt_at hs] at pv
      rw [f_BargeBasinModel_look_L6, if_neg (nI_ge hb (by omega)), idx12, ev_grdN _ (show 12 * s + b < 72012 by omega) (by decide), ev_bnd, ev_grdN _ (show b < 12 by omega) (by decide), ev_grdN _ (show b < 12 by omega) (by decide), nI_clamp (show 12 * s + b < 2 ^ 31 by omega), cl_nI (show b < 12 by omega), pv, pk_us, ev_b _ (m_layB h hr hb i1.1 i1.2 _), ev_bnd, nI_1]
      refine ih (b + 1) n _ _ (by omega) (by omega) (fun f hf => ?_) (fun c hc => ?_)
      · show (if fbA B (gt L s) b f = true then nI b else kw f) = oI (if fbA B (gt L s) b f = true then some b else whoN (fbA B (gt L s)) b f)
        by_cases z : fbA B (gt L s) b f = true
        · rw [if_pos z, if_pos z]; rfl
        · rw [if_neg z, if_neg z]; exact h3 f hf
      · by_cases z : c = b
        · subst z; exact pk_us
        · rw [pk_un z]; exact h4 c (by omega)
  obtain ⟨kw₉, kh₉, e, q1, q2⟩ := loop (bn B) 0 jN (fun f => if f < 64 then -1 else kwho f) kh (by omega) (by show bn B < 2000000; omega) (fun f hf => by show (if f < 64 then (-1 : Int32) else kwho f) = _; rw [if_pos hf]; rfl) (fun c hc => by omega)
  refine ⟨kw₉, kh₉, ?_, q1, q2⟩
  rw [nI_0] at e
  unfold f_BargeBasinModel_look
  rw [ev_b _ (m_clearWho kwho), ev_b _ e, un2_ap]
/-- all moves of the first s stands -/
def prA (B : Bas) (most : Nat) (L : List (Nat → Nat)) (s : Nat) : List (Nat × Nat) := (List.range s).flatMap fun s₉ => prs s₉ (mvs B (gt L s₉) most false)
theorem prA_s {B : Bas} {most s : Nat} {L : List (Nat → Nat)} : prA B most L (s + 1) = prA B most L s ++ prs s (mvs B (gt L s) most false) := by
  unfold prA
  rw [List.range_succ, List.flatMap_append]
  simp
theorem prA_ext {B : Bas} {most : Nat} {L l : List (Nat → Nat)} {s : Nat} (hs : s ≤ L.length) : prA B most (L ++ l) s = prA B most L s := by
  induction s with
  | zero => simp [prA]
  | succ s ih =>
    have g : gt (L ++ l) s = gt L s := gt_app (by omega)
    rw [prA_s, prA_s, ih (by omega), g]
theorem prA_lt {B : Bas} {most : Nat} {L : List (Nat → Nat)} {s : Nat} {p : Nat × Nat} (h : p ∈ prA B most L s) : p.1 < s := by
  unfold prA at h
  obtain ⟨s₉, h1, h2⟩ := List.mem_flatMap.mp h
  rw [List.mem_range] at h1
  have := (prs_mem h2).1
  omega
theorem prA_len {B : Bas} {most : Nat} {L : List (Nat → Nat)} (h : basOk B) (hL : ∀ P, P ∈ L → stC B P) : ∀ {s : Nat}, s ≤ L.length → (prA B most L s).length ≤ 168 * s
  | 0, _ => by simp [prA]
  | s + 1, hs => by
    rw [prA_s, List.length_append, prs_len]
    have h1 := prA_len h hL (s := s) (by omega) (most := most)
    have h2 := mvs_168 (most := most) (bk := false) h (hL _ (gt_mem (show s < L.length by omega))).1
    omega
theorem Lk_gt {B : Bas} {most s : Nat} {P0 : Nat → Nat} (hs : s < (Lk (sucB B most) P0 s).length) : Lk (sucB B most) P0 (s + 1) = ((mvs B (gt (Lk (sucB B most) P0 s) s) most false).map (tgt (gt (Lk (sucB B most) P0 s) s))).foldl meetL (Lk (sucB B most) P0 s) := by
  rw [Lk_go hs, gt_at hs]; rfl
theorem m_lkL68 {B : Bas} {most : Nat} {P0 : Nat → Nat} {kwl kk ks ky : Nat → Int32} (h : basOk B) (hr : rfB B kk ks ky) (hwl : rfW B kwl) (hm : most ≤ 7) :
    ∀ (r s n : Nat) (kpl khd kch kdp kpr kbb kby kbs kfe ked keb kwho kh : Nat → Int32), s + r = 6000 → r < n → (Lk (sucB B most) P0 s).length ≤ 6000 → s ≤ (Lk (sucB B most) P0 s).length → xS B (Lk (sucB B most) P0 s) (prA B most (Lk (sucB B most) P0 s) s) kpl khd kch kdp kpr kbb kby kbs ked keb → (∀ s₉, s₉ < s → kfe s₉ = nI (prA B most (Lk (sucB B most) P0 s) s₉).length) →
      ∃ x, f_BargeBasinModel_looksAtAll_L68 (nI most) (nI (bw B)) (nI (bh B)) (nI (bn B)) kwl kk ks ky n (nI s) (nI (Lk (sucB B most) P0 s).length) (nI (prA B most (Lk (sucB B most) P0 s) s).length) kpl khd kch kdp kpr kbb kby kbs kfe ked keb kwho kh = some x ∧
        ((∃ kpl₉ khd₉ kch₉ kdp₉ kpr₉ kbb₉ kby₉ kbs₉ kfe₉ ked₉ keb₉ kwho₉ kh₉, x = .inr (nI (Lk (sucB B most) P0 6001).length, nI (prA B most (Lk (sucB B most) P0 6001) (Lk (sucB B most) P0 6001).length).length, kpl₉, khd₉, kch₉, kdp₉, kpr₉, kbb₉, kby₉, kbs₉, kfe₉, ked₉, keb₉, kwho₉, kh₉) ∧ (Lk (sucB B most) P0 6001).length ≤ 6000 ∧
          xS B (Lk (sucB B most) P0 6001) (prA B most (Lk (sucB B most) P0 6001) (Lk (sucB B most) P0 6001).length) kpl₉ khd₉ kch₉ kdp₉ kpr₉ kbb₉ kby₉ kbs₉ ked₉ keb₉ ∧ ∀ s₉, s₉ < (Lk (sucB B most) P0 6001).length → kfe₉ s₉ = nI (prA B most (Lk (sucB B most) P0 6001) s₉).length) ∨
         ((∃ y, x = .inl y) ∧ 6000 < (Lk (sucB B most) P0 6001).length)) := by
  intro r
  have fin : ∀ (s n : Nat) (kpl khd kch kdp kpr kbb kby kbs kfe ked keb kwho kh : Nat → Int32), s ≤ 6000 → s = (Lk (sucB B most) P0 s).length → xS B (Lk (sucB B most) P0 s) (prA B most (Lk (sucB B most) P0 s) s) kpl khd kch kdp kpr kbb kby kbs ked keb → (∀ s₉, s₉ < s → kfe s₉ = nI (prA B most (Lk (sucB B most) P0 s) s₉).length) →
      ∃ x, f_BargeBasinModel_looksAtAll_L68 (nI most) (nI (bw B)) (nI (bh B)) (nI (bn B)) kwl kk ks ky (n + 1) (nI s) (nI (Lk (sucB B most) P0 s).length) (nI (prA B most (Lk (sucB B most) P0 s) s).length) kpl khd kch kdp kpr kbb kby kbs kfe ked keb kwho kh = some x ∧
        ((∃ kpl₉ khd₉ kch₉ kdp₉ kpr₉ kbb₉ kby₉ kbs₉ kfe₉ ked₉ keb₉ kwho₉ kh₉, x = .inr (nI (Lk (sucB B most) P0 6001).length, nI (prA B most (Lk (sucB B most) P0 6001) (Lk (sucB B most) P0 6001).length).length, kpl₉, khd₉, kch₉, kdp₉, kpr₉, kbb₉, kby₉, kbs₉, kfe₉, ked₉, keb₉, kwho₉, kh₉) ∧ (Lk (sucB B most) P0 6001).length ≤ 6000 ∧
          xS B (Lk (sucB B most) P0 6001) (prA B most (Lk (sucB B most) P0 6001) (Lk (sucB B most) P0 6001).length) kpl₉ khd₉ kch₉ kdp₉ kpr₉ kbb₉ kby₉ kbs₉ ked₉ keb₉ ∧ ∀ s₉, s₉ < (Lk (sucB B most) P0 6001).length → kfe₉ s₉ = nI (prA B most (Lk (sucB B most) P0 6001) s₉).length) ∨
         ((∃ y, x = .inl y) ∧ 6000 < (Lk (sucB B most) P0 6001).length)) := by
    intro s n kpl khd kch kdp kpr kbb kby kbs kfe ked keb kwho kh h6 hs hx hf
    have e := Lk_end (sc := sucB B most) (v0 := P0) (m := s) (by omega) (6001 - s)
    rw [show s + (6001 - s) = 6001 by omega] at e
    rw [e]
    refine ⟨_, ?_, Or.inl ⟨kpl, khd, kch, kdp, kpr, kbb, kby, kbs, kfe, ked, keb, kwho, kh, rfl, by omega, by rw [← hs]; exact hx, fun s₉ h₉ => hf s₉ (by omega)⟩⟩
    rw [f_BargeBasinModel_looksAtAll_L68, if_pos (nI_le (by omega) (by omega)), ← hs]
  induction r with
  | zero =>
    intro s n kpl khd kch kdp kpr kbb kby kbs kfe ked keb kwho kh h1 h2 h3 h4 h5 h6
    obtain ⟨n, rfl⟩ : ∃ z, n = z + 1 := ⟨n - 1, by omega⟩
    exact fin s n kpl khd kch kdp kpr kbb kby kbs kfe ked keb kwho kh (by omega) (by omega) h5 h6
  | succ r ih =>
    intro s n kpl khd kch kdp kpr kbb kby kbs kfe ked keb kwho kh h1 h2 h3 h4 h5 h6
    obtain ⟨n, rfl⟩ : ∃ z, n = z + 1 := ⟨n - 1, by omega⟩
    by_cases e : s = (Lk (sucB B most) P0 s).length
    · exact fin s n kpl khd kch kdp kpr kbb kby kbs kfe ked keb kwho kh (by omega) e h5 h6
    · have hs : s < (Lk (sucB B most) P0 s).length := by omega
      have hP := h5.1.1 _ (gt_mem hs)
      obtain ⟨kw1, kh1, e1, o1, p1⟩ := m_look (kwho := kwho) (kh := kh) h hr h5.1.2.1 hs (by omega) hP
      have pl := prA_len (most := most) h h5.1.1 h4
      have ml := mvs_168 (most := most) (bk := false) h hP.1
      have mb : (List.range' 0 (bn B)).flatMap (mvB B (gt (Lk (sucB B most) P0 s) s) most false) = mvs B (gt (Lk (sucB B most) P0 s) s) most false := by
        unfold mvs; rw [List.range_eq_range']
      obtain ⟨x, x1, x2⟩ := m_lkL94 (most := most) (L0 := Lk (sucB B most) P0 s) (A0 := prA B most (Lk (sucB B most) P0 s) s) h hr hwl hP hm hs rfl (fun p hp => prA_lt hp) (bn B) 0 jN [] _ _ kpl khd kch kdp kpr kbb kby kbs ked keb kw1 kh1 (by omega) (by have := h.2.2.2.2.1; show bn B < 2000000; omega) (fun c hc => by cases hc) (by rw [mb, List.length_nil]; omega) ⟨h3, rfl, rfl, by simpa [prs] using h5, o1, p1⟩
      rw [mb, List.nil_append, ← Lk_gt hs] at x2
      rw [nI_0] at x1
      rw [show ((([] : List Nat).map (tgt (gt (Lk (sucB B most) P0 s) s))).foldl meetL (Lk (sucB B most) P0 s)) = Lk (sucB B most) P0 s from rfl, show prs s [] = [] from rfl, List.append_nil] at x1
      rw [f_BargeBasinModel_looksAtAll_L68, if_neg (nI_ge hs (by omega)), ev_grdN _ (show s < 6002 by omega) (by decide), ev_b _ e1, un2_ap, ev_b _ x1]
      rcases x2 with ⟨st1, ed1, a1, a2, a3, a4, a5, a6, a7, a8, a9, a10, a11, a12, ex, q⟩ | ⟨⟨y, ey⟩, q⟩
      · rw [ex, jsel_r, un14_ap, ev_bnd, nI_1, nI_clamp (show s < 2 ^ 31 by omega)]
        obtain ⟨q1, q2, q3, q4, q5, q6⟩ := q
        rw [← Lk_gt hs] at q1 q2 q4
        obtain ⟨l, el⟩ := Lk_pre1 (sc := sucB B most) (v0 := P0) s
        have ea : prA B most (Lk (sucB B most) P0 s) s ++ prs s (mvs B (gt (Lk (sucB B most) P0 s) s) most false) = prA B most (Lk (sucB B most) P0 (s + 1)) (s + 1) := by
          rw [el, prA_ext (by omega), prA_s]
        rw [ea] at q3 q4
        subst q2; subst q3
        refine ih (s + 1) n a1 a2 a3 a4 a5 a6 a7 a8 (upd kfe s (nI (prA B most (Lk (sucB B most) P0 s) s).length)) a9 a10 a11 a12 (by omega) (by omega) q1 (by rw [el, List.length_append]; omega) q4 (fun s₉ hs₉ => ?_)
        rw [el, prA_ext (by omega)]
        by_cases z : s₉ = s
        · subst z; exact pk_us
        · rw [pk_un z]; exact h6 s₉ (by omega)
      · rw [ey, jsel_l]
        refine ⟨_, rfl, Or.inr ⟨⟨_, rfl⟩, ?_⟩⟩
        have := Lk_len (sc := sucB B most) (v0 := P0) (show s + 1 ≤ 6001 by omega)
        omega
end
section
theorem m_heads {v1 : Int32} : ∀ (r i n : Nat) (k : Nat → Int32), i + r = 16384 → r < n → (∀ s, s < i → k s = -1) → ∃ k₉, f_BargeBasinModel_looksAtAll_L2 v1 n (nI i) k = some k₉ ∧ ∀ s, s < 16384 → k₉ s = -1 := by
  intro r
  induction r with
  | zero =>
    intro i n k h1 h2 h3
    obtain ⟨n, rfl⟩ : ∃ z, n = z + 1 := ⟨n - 1, by omega⟩
    exact ⟨k, by rw [f_BargeBasinModel_looksAtAll_L2, if_pos (show (16384 : Int32) ≤ nI i from nI_le (a := 16384) (by omega) (by omega))], fun s hs => h3 s (by omega)⟩
  | succ r ih =>
    intro i n k h1 h2 h3
    obtain ⟨n, rfl⟩ : ∃ z, n = z + 1 := ⟨n - 1, by omega⟩
    rw [f_BargeBasinModel_looksAtAll_L2, if_neg (show ¬ (16384 : Int32) ≤ nI i from nI_ge (b := 16384) (by omega) (by decide)), ev_grdN _ (show i < 16384 by omega) (by decide), ev_bnd, nI_1, nI_clamp (by omega)]
    refine ih (i + 1) n _ (by omega) (by omega) (fun s hs => ?_)
    by_cases e : s = i
    · subst e; exact pk_us
    · rw [pk_un e]; exact h3 s (by omega)
/-- all that the reference's search comes to -/
noncomputable def FL (B : Bas) (most : Nat) (P : Nat → Nat) : List (Nat → Nat) := Lk (sucB B most) P 6001
def lkOut (B : Bas) (most : Nat) (P : Nat → Nat) (st ed : Int32) (kpl khd kch kdp kpr kbb kby kbs kfe ked keb : Nat → Int32) : Prop :=
  (FL B most P).length ≤ 6000 ∧ st = nI (FL B most P).length ∧ xS B (FL B most P) (prA B most (FL B most P) (FL B most P).length) kpl khd kch kdp kpr kbb kby kbs ked keb ∧ ∀ s, s ≤ (FL B most P).length → kfe s = nI (prA B most (FL B most P) s).length
theorem m_looksAtAll {B : Bas} {sg : Bool} {most : Nat} {P : Nat → Nat} {kwl kk kat ks ky : Nat → Int32} (h : basOk B) (hP : stC B P) (hr : rfB B kk ks ky) (hwl : rfW B kwl) (hp : chP B P kat) (hmost : most = if sg then 1 else 7) (st0 ed0 : Int32) (kpl khd kch kdp kpr kbb kby kbs kfe ked keb kwho kh : Nat → Int32) :
    ∃ (well : Bool) (st ed : Int32) (kpl₉ khd₉ kch₉ kdp₉ kpr₉ kbb₉ kby₉ kbs₉ kfe₉ ked₉ keb₉ kwho₉ kh₉ : Nat → Int32), f_BargeBasinModel_looksAtAll (bI sg) (nI (bw B)) (nI (bh B)) (nI (bn B)) st0 ed0 kwl kk kat ks ky kpl khd kch kdp kpr kbb kby kbs kfe ked keb kwho kh = some (bI well, st, ed, kpl₉, khd₉, kch₉, kdp₉, kpr₉, kbb₉, kby₉, kbs₉, kfe₉, ked₉, keb₉, kwho₉, kh₉) ∧
      (well = true → lkOut B most P st ed kpl₉ khd₉ kch₉ kdp₉ kpr₉ kbb₉ kby₉ kbs₉ kfe₉ ked₉ keb₉) ∧ (well = false → 6000 < (FL B most P).length) := by
  have hm : most ≤ 7 := by rw [hmost]; split <;> decide
  obtain ⟨khd1, e1, z1⟩ := m_heads (v1 := bI sg) 16384 0 jN khd (by omega) (by decide) (fun s hs => by omega)
  obtain ⟨kw1, kh1, e2, o1, p1⟩ := m_layAllB h hP.1.1 hr hp kwho kh
  have t0 : rTab B [] kpl khd1 kch := ⟨fun Q hQ => by (cases hQ), fun i hi => by (cases hi), fun s hs => z1 s hs, fun i hi => by (cases hi)⟩
  rcases m_numberOf h t0 (by simp) p1 hP with ⟨i, hi, -, -⟩ | ⟨-, kpl1, khd2, kch1, e3, t1⟩
  · cases hi
  · rw [List.nil_append] at e3 t1
    have x0 : rX [P] [] (upd kdp 0 0) (upd kpr 0 (-1)) kbb kby kbs ked keb := by
      refine ⟨fun p hp => by (cases hp), fun k hk => by (cases hk), fun _ => 0, fun _ => 0, fun _ => 0, rfl, ?_, ?_⟩
      · intro i hi
        have : i = 0 := by simpa using hi
        subst this
        exact ⟨pk_us, Nat.le_refl _⟩
      · intro i h0 hi
        have : i = 0 := by simpa using hi
        omega
    obtain ⟨x, x1, x2⟩ := m_lkL68 (most := most) (P0 := P) h hr hwl hm 6000 0 jN kpl1 khd2 kch1 (upd kdp 0 0) (upd kpr 0 (-1)) kbb kby kbs kfe ked keb kw1 kh1 (by omega) (by decide) (by simp [Lk]) (Nat.zero_le _) ⟨t1, by simpa [prA, Lk] using x0⟩ (fun s hs => by omega)
    rw [show prA B most (Lk (sucB B most) P 0) 0 = [] by simp [prA], nI_0, List.length_nil, nI_0, show Lk (sucB B most) P 0 = [P] from rfl] at x1
    have J : ∃ (well : Bool) (st ed : Int32) (kpl₉ khd₉ kch₉ kdp₉ kpr₉ kbb₉ kby₉ kbs₉ kfe₉ ked₉ keb₉ kwho₉ kh₉ : Nat → Int32), f_BargeBasinModel_looksAtAll_J65 (nI most) (nI (bw B)) (nI (bh B)) (nI (bn B)) (nI [P].length) 0 kwl kk ks ky kpl1 khd2 kch1 (upd kdp 0 0) (upd kpr 0 (-1)) kbb kby kbs kfe ked keb kw1 kh1 = some (bI well, st, ed, kpl₉, khd₉, kch₉, kdp₉, kpr₉, kbb₉, kby₉, kbs₉, kfe₉, ked₉, keb₉, kwho₉, kh₉) ∧
      (well = true → lkOut B most P st ed kpl₉ khd₉ kch₉ kdp₉ kpr₉ kbb₉ kby₉ kbs₉ kfe₉ ked₉ keb₉) ∧ (well = false → 6000 < (FL B most P).length) := by
      unfold f_BargeBasinModel_looksAtAll_J65
      rw [ev_b _ x1]
      rcases x2 with ⟨a1, a2, a3, a4, a5, a6, a7, a8, a9, a10, a11, a12, a13, ex, q1, q2, q3⟩ | ⟨⟨y, ey⟩, q⟩
      · rw [ex, jsel_r, un15_ap, ev_grdN _ (show (Lk (sucB B most) P 6001).length < 6002 by omega) (by decide), nI_clamp (show (Lk (sucB B most) P 6001).length < 2 ^ 31 by omega)]
        refine ⟨true, _, _, a1, a2, a3, a4, a5, a6, a7, a8, _, a10, a11, a12, a13, rfl, fun _ => ⟨q1, rfl, q2, fun s hs => ?_⟩, fun z => by (cases z)⟩
        unfold FL at *
        by_cases e : s = (Lk (sucB B most) P 6001).length
        · rw [e, pk_us]
        · rw [pk_un e]; exact q3 s (by omega)
      · rw [ey, jsel_l]
        exact ⟨false, _, _, _, _, _, _, _, _, _, _, _, _, _, _, _, rfl, fun z => by (cases z), fun _ => q⟩
    obtain ⟨well, st, ed, b1, b2, b3, b4, b5, b6, b7, b8, b9, b10, b11, b12, b13, f1, f2, f3⟩ := J
    refine ⟨well, st, ed, b1, b2, b3, b4, b5, b6, b7, b8, b9, b10, b11, b12, b13, ?_, f2, f3⟩
    rw [nI_0] at e1
    rw [List.length_nil, nI_0] at e3
    unfold f_BargeBasinModel_looksAtAll
    rw [ev_b _ e1, ev_b _ e2, un2_ap, ev_b _ e3, un5_ap, ev_grd _ (show vp_in 0 6001 from vp_in_nI (n := 0) (by decide) (by decide)), ev_grd _ (show vp_in 0 6001 from vp_in_nI (n := 0) (by decide) (by decide))]
    cases sg with
    | true => rw [if_neg (show ¬ bI true = 0 by decide)]; rw [hmost] at f1; exact f1
    | false => rw [if_pos (show bI false = 0 by decide)]; rw [hmost] at f1; exact f1
end
section
/-! What the lists of stands have in common. -/
theorem Lk_min {sc : (Nat → Nat) → List (Nat → Nat)} {v0 : Nat → Nat} {S : (Nat → Nat) → Prop} (h0 : S v0) (hS : ∀ v, S v → ∀ u, u ∈ sc v → S u) : ∀ m v, v ∈ Lk sc v0 m → S v
  | 0, v, hv => by
    have : v = v0 := by simpa [Lk] using hv
    rw [this]; exact h0
  | m + 1, v, hv => by
    by_cases h : m < (Lk sc v0 m).length
    · rw [Lk_go h, foldL_mem] at hv
      rcases hv with z | z
      · exact Lk_min h0 hS m v z
      · exact hS _ (Lk_min h0 hS m _ (List.getElem_mem h)) v z
    · rw [Lk_stop h] at hv
      exact Lk_min h0 hS m v hv
theorem Lk_start {sc : (Nat → Nat) → List (Nat → Nat)} {v0 : Nat → Nat} (m : Nat) : ∃ h : 0 < (Lk sc v0 m).length, (Lk sc v0 m)[0] = v0 := by
  obtain ⟨l, e⟩ := Lk_pre 0 m (sc := sc) (v0 := v0)
  rw [Nat.zero_add] at e
  have e2 : Lk sc v0 m = [v0] ++ l := e
  refine ⟨by rw [e2]; simp, ?_⟩
  simp only [e2]
  rfl
theorem Lk_clos {sc : (Nat → Nat) → List (Nat → Nat)} {v0 : Nat → Nat} {m : Nat} (h : (Lk sc v0 m).length ≤ m) : ∀ v, v ∈ Lk sc v0 m → ∀ u, u ∈ sc v → u ∈ Lk sc v0 m := by
  intro v hv u hu
  obtain ⟨s, hs, es⟩ := List.getElem_of_mem hv
  -- at step s the list had s
  have grow : ∀ k, k ≤ s → k < (Lk sc v0 k).length := by
    intro k hk
    apply Nat.lt_of_not_le
    intro z
    have e := Lk_end z (m - k)
    rw [show k + (m - k) = m by omega] at e
    rw [e] at hs
    omega
  have gs := grow s (Nat.le_refl _)
  obtain ⟨l, el⟩ := Lk_pre s (m - s) (sc := sc) (v0 := v0)
  rw [show s + (m - s) = m by omega] at el
  have ev : (Lk sc v0 s)[s] = v := by
    have a : (Lk sc v0 m)[s] = (Lk sc v0 s ++ l)[s]'(by rw [List.length_append]; omega) := by simp only [el]
    rw [← es, a, List.getElem_append_left gs]
  obtain ⟨l2, el2⟩ := Lk_pre (s + 1) (m - (s + 1)) (sc := sc) (v0 := v0)
  rw [show s + 1 + (m - (s + 1)) = m by omega] at el2
  rw [el2]
  apply List.mem_append_left
  rw [Lk_go gs, foldL_mem, ev]
  exact Or.inr hu
theorem sub_len {α : Type} {l m : List α} (h : l.Nodup) (hs : ∀ x, x ∈ l → x ∈ m) : l.length ≤ m.length := by
  have ex : ∀ i, i < l.length → ∃ j, ∃ hj : j < m.length, ∃ hi : i < l.length, m[j] = l[i] := by
    intro i hi
    obtain ⟨j, hj, e⟩ := List.getElem_of_mem (hs _ (List.getElem_mem hi))
    exact ⟨j, hj, hi, e⟩
  have cl : ∃ f : Nat → Nat, ∀ i, i < l.length → ∃ hj : f i < m.length, ∃ hi : i < l.length, m[f i] = l[i] := by
    refine ⟨fun i => @dite _ (i < l.length) (Classical.propDecidable _) (fun h => Classical.choose (ex i h)) (fun _ => 0), fun i hi => ?_⟩
    have : (@dite _ (i < l.length) (Classical.propDecidable _) (fun h => Classical.choose (ex i h)) (fun _ => 0)) = Classical.choose (ex i hi) := dif_pos hi
    simp only [this]
    exact Classical.choose_spec (ex i hi)
  obtain ⟨f, hf⟩ := cl
  refine pigeon m.length l.length f (fun s hs₉ => (hf s hs₉).1) ?_
  intro s t hs₉ ht e
  obtain ⟨a1, a2, a3⟩ := hf s hs₉
  obtain ⟨b1, b2, b3⟩ := hf t ht
  refine nd_inj h a2 b2 ?_
  rw [← a3, ← b3]
  simp only [e]
theorem sucB_mem {B : Bas} {most : Nat} {v u : Nat → Nat} : u ∈ sucB B most v ↔ ∃ c, c ∈ mvs B v most false ∧ tgt v c = u := by
  unfold sucB
  rw [List.mem_map]
theorem FL_clsd {B : Bas} {most : Nat} {P : Nat → Nat} (h : (FL B most P).length ≤ 6000) : clsd B most (FL B most P) := by
  intro v hv c hc
  have l0 : (Lk (sucB B most) P 6000).length ≤ 6000 := Nat.le_trans (Lk_len (show 6000 ≤ 6001 by decide)) h
  have e : FL B most P = Lk (sucB B most) P 6000 := Lk_end l0 1
  rw [e] at hv ⊢
  exact Lk_clos l0 v hv _ (sucB_mem.mpr ⟨c, hc, rfl⟩)
theorem FL_nd {B : Bas} {most : Nat} {P : Nat → Nat} : (FL B most P).Nodup := Lk_nodup 6001
theorem FL_0 {B : Bas} {most : Nat} {P : Nat → Nat} : ∃ h : 0 < (FL B most P).length, (FL B most P)[0] = P := Lk_start 6001
theorem FL_in0 {B : Bas} {most : Nat} {P : Nat → Nat} : P ∈ FL B most P := by
  obtain ⟨z0, z1⟩ := FL_0 (B := B) (most := most) (P := P)
  have m := List.getElem_mem z0
  rw [z1] at m
  exact m
theorem FL_st {B : Bas} {most : Nat} {P : Nat → Nat} (h : basOk B) (hP : stC B P) : ∀ v, v ∈ FL B most P → stC B v := by
  intro v hv
  refine Lk_min (S := stC B) hP ?_ 6001 v hv
  intro v hv u hu
  obtain ⟨c, hc, e⟩ := sucB_mem.mp hu
  rw [← e]
  exact mvs_can h hv hc
/-- a move of one step is a move -/
theorem mvs_17 {B : Bas} {v : Nat → Nat} {c : Nat} {bk : Bool} (h : c ∈ mvs B v 1 bk) : c ∈ mvs B v 7 bk := by
  obtain ⟨b, d, k, hb, hd, h1, h2, h3, e⟩ := mvs_mem.mp h
  exact mvs_mem.mpr ⟨b, d, k, hb, hd, h1, by omega, h3, e⟩
/-- what holds single steps holds moves -/
theorem cls_17 {B : Bas} {S : (Nat → Nat) → Prop} (h : basOk B) (hst : ∀ v, S v → stOk B v) (hS : ∀ v, S v → ∀ c, c ∈ mvs B v 1 false → S (tgt v c)) : ∀ v, S v → ∀ c, c ∈ mvs B v 7 false → S (tgt v c) := by
  intro v hv c hc
  obtain ⟨b, d, k, hb, hd, h1, h2, h3, e⟩ := mvs_mem.mp hc
  rw [e, tgt_code hd (by omega)]
  have way : ∀ j, j ≤ k → S (updN v b (nxtk d (v b) j)) := by
    intro j
    induction j with
    | zero => intro _; show S (updN v b (v b)); rw [updN_self]; exact hv
    | succ j ih =>
      intro hj
      have s0 := ih (by omega)
      have w := room_way (show j < room B v b d false by omega)
      have r1 : 1 ≤ room B (updN v b (nxtk d (v b) j)) b d false := by
        unfold room
        rw [roomA_iff]
        refine ⟨by decide, fun i hi => ?_⟩
        have : i = 0 := by omega
        subst this
        rw [updN_s, hnd_upd]
        exact w
      have := hS _ s0 (32 * b + 8 * d + 1) (mvs_mem.mpr ⟨b, d, 1, hb, hd, by omega, by omega, r1, rfl⟩)
      rw [tgt_code hd (by omega), updN_two, updN_s] at this
      rw [nxtk_s]
      exact this
  exact way k (Nat.le_refl _)
/-- single steps and moves come to the same stands -/
theorem FL_17 {B : Bas} {P : Nat → Nat} (h : basOk B) (hP : stC B P) : ((FL B 1 P).length ≤ 6000 ↔ (FL B 7 P).length ≤ 6000) ∧ ((FL B 7 P).length ≤ 6000 → ∀ v, v ∈ FL B 1 P ↔ v ∈ FL B 7 P) := by
  have a : (FL B 7 P).length ≤ 6000 → ∀ v, v ∈ FL B 1 P → v ∈ FL B 7 P := by
    intro h7 v hv
    refine Lk_min (S := fun v => v ∈ FL B 7 P) FL_in0 ?_ 6001 v hv
    intro v hv u hu
    obtain ⟨c, hc, e⟩ := sucB_mem.mp hu
    rw [← e]
    exact FL_clsd h7 v hv c (mvs_17 hc)
  have b : (FL B 1 P).length ≤ 6000 → ∀ v, v ∈ FL B 7 P → v ∈ FL B 1 P := by
    intro h1 v hv
    refine Lk_min (S := fun v => v ∈ FL B 1 P) FL_in0 ?_ 6001 v hv
    intro v hv u hu
    obtain ⟨c, hc, e⟩ := sucB_mem.mp hu
    rw [← e]
    exact cls_17 h (fun v hv => (FL_st h hP v hv).1) (FL_clsd h1) v hv c hc
  have i1 : (FL B 7 P).length ≤ 6000 → (FL B 1 P).length ≤ 6000 := fun h7 => Nat.le_trans (sub_len FL_nd (a h7)) h7
  have i2 : (FL B 1 P).length ≤ 6000 → (FL B 7 P).length ≤ 6000 := fun h1 => Nat.le_trans (sub_len FL_nd (b h1)) h1
  exact ⟨⟨i2, i1⟩, fun h7 v => ⟨a h7 v, b (i1 h7) v⟩⟩
theorem clsd_7 {B : Bas} {P : Nat → Nat} (h : (FL B 7 P).length ≤ 6000) (most : Nat) (hm : most = 1 ∨ most = 7) : clsd B most (FL B 7 P) := by
  rcases hm with e | e
  · subst e
    intro v hv c hc
    exact FL_clsd h v hv c (mvs_17 hc)
  · subst e; exact FL_clsd h
theorem prA_mem {B : Bas} {most : Nat} {L : List (Nat → Nat)} {s n c : Nat} (hs : s < n) (hc : c ∈ mvs B (gt L s) most false) : (s, c) ∈ prA B most L n := by
  unfold prA
  rw [List.mem_flatMap]
  refine ⟨s, List.mem_range.mpr hs, ?_⟩
  unfold prs
  exact List.mem_map.mpr ⟨c, hc, rfl⟩
theorem prA_mvs {B : Bas} {most : Nat} {L : List (Nat → Nat)} {n : Nat} {p : Nat × Nat} (hp : p ∈ prA B most L n) : p.2 ∈ mvs B (gt L p.1) most false := by
  unfold prA at hp
  obtain ⟨s₉, h1, h2⟩ := List.mem_flatMap.mp hp
  have := prs_mem h2
  rw [this.1]; exact this.2
end
section
/-! The tree of the first ways: the reference's plan is the first plan. -/
def trOk (B : Bas) (most : Nat) (F : List (Nat → Nat)) (par mno dep : Nat → Nat) : Prop :=
  F.Nodup ∧ clsd B most F ∧ dep 0 = 0 ∧ ∀ i, 0 < i → i < F.length → par i < i ∧ mno i ∈ mvs B (gt F (par i)) most false ∧ gt F i = tgt (gt F (par i)) (mno i) ∧ dep i = dep (par i) + 1 ∧
    ∀ s c, s < F.length → c ∈ mvs B (gt F s) most false → (s < par i ∨ (s = par i ∧ c < mno i)) → ∃ i₉, i₉ < i ∧ gt F i₉ = tgt (gt F s) c
theorem tr_of {B : Bas} {most : Nat} {F : List (Nat → Nat)} {par mno dep : Nat → Nat} {kdp kpr kbb kby kbs : Nat → Int32} (hn : F.Nodup) (hc : clsd B most F) (h : tR F (prA B most F F.length) par mno dep kdp kpr kbb kby kbs) : trOk B most F par mno dep := by
  refine ⟨hn, hc, h.1, fun i h0 hi => ?_⟩
  obtain ⟨a1, a2, a3, a4, a5, a6, a7, a8, a9⟩ := h.2.2 i h0 hi
  have m := prA_mvs a1
  simp only at m
  refine ⟨a2, m, a7, a8, fun s c hs hcm hl => ?_⟩
  have l : lexP (s, c) (par i, mno i) := by
    unfold lexP
    simp only
    exact hl
  have r := a9 (s, c) (prA_mem hs hcm) l
  simp only at r
  exact r
theorem gt_inj {F : List (Nat → Nat)} (hn : F.Nodup) {i j : Nat} (hi : i < F.length) (hj : j < F.length) (e : gt F i = gt F j) : i = j := nd_inj hn hi hj (by rw [← gt_at hi, ← gt_at hj, e])
theorem tr_par {B : Bas} {most : Nat} {F : List (Nat → Nat)} {par mno dep : Nat → Nat} (h : trOk B most F par mno dep) {i j : Nat} (h0 : 0 < i) (hij : i ≤ j) (hj : j < F.length) : par i ≤ par j := by
  obtain ⟨hn, hc, d0, tr⟩ := h
  obtain ⟨a1, a2, a3, a4, a5⟩ := tr i h0 (by omega)
  obtain ⟨b1, b2, b3, b4, b5⟩ := tr j (by omega) hj
  apply Nat.le_of_not_lt
  intro z
  obtain ⟨i₉, q1, q2⟩ := a5 (par j) (mno j) (by omega) b2 (Or.inl z)
  rw [← b3] at q2
  have := gt_inj hn (show i₉ < F.length by omega) hj q2
  omega
theorem tr_mono {B : Bas} {most : Nat} {F : List (Nat → Nat)} {par mno dep : Nat → Nat} (h : trOk B most F par mno dep) : ∀ j, j < F.length → ∀ i, i ≤ j → dep i ≤ dep j := by
  intro j
  induction j using Nat.strongRecOn with
  | ind j ih =>
    intro hj i hij
    by_cases e : i = 0
    · subst e; rw [h.2.2.1]; exact Nat.zero_le _
    · obtain ⟨b1, -, -, b4, -⟩ := h.2.2.2 j (by omega) hj
      obtain ⟨-, -, -, a4, -⟩ := h.2.2.2 i (by omega) (by omega)
      have p := tr_par h (show 0 < i by omega) hij hj
      have := ih (par j) b1 (by omega) (par i) p
      omega
theorem tr_edge {B : Bas} {most : Nat} {F : List (Nat → Nat)} {par mno dep : Nat → Nat} (h : trOk B most F par mno dep) {u a c : Nat} (hu : u < F.length) (ha : a < F.length) (hc : c ∈ mvs B (gt F u) most false) (e : gt F a = tgt (gt F u) c) : dep a ≤ dep u + 1 := by
  by_cases z : a = 0
  · subst z; rw [h.2.2.1]; omega
  · obtain ⟨b1, -, -, b4, b5⟩ := h.2.2.2 a (by omega) ha
    by_cases y : par a ≤ u
    · have := tr_mono h u hu (par a) y
      omega
    · obtain ⟨i₉, q1, q2⟩ := b5 u c hu hc (Or.inl (by omega))
      rw [← e] at q2
      have := gt_inj h.1 (show i₉ < F.length by omega) ha q2
      omega
theorem tr_can {B : Bas} {most : Nat} {F : List (Nat → Nat)} {par mno dep : Nat → Nat} (h : trOk B most F par mno dep) : ∀ k u, u < F.length → canD B most k (gt F u) → ∃ a, a < F.length ∧ freedA B (gt F a) = true ∧ dep a ≤ dep u + k
  | 0, u, hu, hc => ⟨u, hu, hc, Nat.le_refl _⟩
  | k + 1, u, hu, hc => by
    obtain ⟨c, h1, h2⟩ := hc
    obtain ⟨a, ha, ea⟩ := List.getElem_of_mem (h.2.1 _ (gt_mem hu) c h1)
    rw [← gt_at ha] at ea
    rw [← ea] at h2
    obtain ⟨x, x1, x2, x3⟩ := tr_can h k a ha h2
    have := tr_edge h hu ha h1 ea
    exact ⟨x, x1, x2, by omega⟩
/-- the ancestors of z -/
def upT (par : Nat → Nat) (z : Nat) : Nat → Nat
  | 0 => z
  | m + 1 => par (upT par z m)
def csT (par mno : Nat → Nat) (z : Nat) : Nat → List Nat
  | 0 => []
  | m + 1 => mno (upT par z m) :: csT par mno z m
theorem up_ok {B : Bas} {most : Nat} {F : List (Nat → Nat)} {par mno dep : Nat → Nat} (h : trOk B most F par mno dep) {z : Nat} (hz : z < F.length) : ∀ m, m ≤ dep z → upT par z m < F.length ∧ dep (upT par z m) + m = dep z
  | 0, _ => ⟨hz, rfl⟩
  | m + 1, hm => by
    obtain ⟨a, b⟩ := up_ok h hz m (by omega)
    have p : 0 < upT par z m := by
      apply Nat.pos_of_ne_zero
      intro e
      rw [e, h.2.2.1] at b
      omega
    obtain ⟨q1, -, -, q4, -⟩ := h.2.2.2 _ p a
    show par (upT par z m) < F.length ∧ dep (par (upT par z m)) + (m + 1) = dep z
    omega
theorem up_pos {B : Bas} {most : Nat} {F : List (Nat → Nat)} {par mno dep : Nat → Nat} (h : trOk B most F par mno dep) {z : Nat} (hz : z < F.length) {m : Nat} (hm : m < dep z) : 0 < upT par z m := by
  obtain ⟨a, b⟩ := up_ok h hz m (by omega)
  apply Nat.pos_of_ne_zero
  intro e
  rw [e, h.2.2.1] at b
  omega
/-- one that stands ahead of an ancestor, as far from a freed one, has a freed one ahead of z -/
theorem up_lt {B : Bas} {most : Nat} {F : List (Nat → Nat)} {par mno dep : Nat → Nat} (h : trOk B most F par mno dep) {z : Nat} (hz : z < F.length) : ∀ m, m ≤ dep z → ∀ t, t < upT par z m → canD B most m (gt F t) → ∃ a, a < z ∧ freedA B (gt F a) = true
  | 0, _, t, ht, hc => ⟨t, ht, hc⟩
  | m + 1, hm, t, ht, hc => by
    obtain ⟨c, h1, h2⟩ := hc
    obtain ⟨a, b⟩ := up_ok h hz m (by omega)
    have p := up_pos h hz (show m < dep z by omega)
    obtain ⟨q1, q2, q3, q4, q5⟩ := h.2.2.2 _ p a
    have ht₉ : t < par (upT par z m) := ht
    obtain ⟨i₉, r1, r2⟩ := q5 t c (by omega) h1 (Or.inl ht₉)
    rw [← r2] at h2
    exact up_lt h hz m (by omega) i₉ r1 h2
theorem tr_plan {B : Bas} {most : Nat} {F : List (Nat → Nat)} {par mno dep : Nat → Nat} (h : trOk B most F par mno dep) {z : Nat} (hz : z < F.length) (hf : freedA B (gt F z) = true) (hfirst : ∀ a, a < z → freedA B (gt F a) = false) :
    ∀ m, m ≤ dep z → isD B most (gt F (upT par z m)) m ∧ gPath B most m (gt F (upT par z m)) (csT par mno z m) := by
  have low : ∀ m, m ≤ dep z → ∀ j, j < m → ¬ canD B most j (gt F (upT par z m)) := by
    intro m hm j hj hc
    obtain ⟨a, b⟩ := up_ok h hz m hm
    obtain ⟨x, x1, x2, x3⟩ := tr_can h j _ a hc
    have : z ≤ x := by
      apply Nat.le_of_not_lt
      intro y
      rw [hfirst x y] at x2
      cases x2
    have := tr_mono h x x1 z this
    omega
  intro m
  induction m with
  | zero =>
    intro _
    exact ⟨⟨hf, fun j hj => by omega⟩, rfl⟩
  | succ m ih =>
    intro hm
    obtain ⟨i1, i2⟩ := ih (by omega)
    obtain ⟨a, b⟩ := up_ok h hz m (by omega)
    have p := up_pos h hz (show m < dep z by omega)
    obtain ⟨q1, q2, q3, q4, q5⟩ := h.2.2.2 _ p a
    have us : upT par z (m + 1) = par (upT par z m) := rfl
    have lw := low (m + 1) hm
    rw [us] at lw ⊢
    refine ⟨⟨⟨mno (upT par z m), q2, by rw [← q3]; exact i1.1⟩, lw⟩, ?_⟩
    refine ⟨mno (upT par z m), csT par mno z m, rfl, q2, by rw [← q3]; exact i1, ?_, by rw [← q3]; exact i2⟩
    intro c₉ hc₉ lt hd
    obtain ⟨i₉, r1, r2⟩ := q5 (par (upT par z m)) c₉ (by omega) hc₉ (Or.inr ⟨rfl, lt⟩)
    have hd1 : canD B most m (tgt (gt F (par (upT par z m))) c₉) := hd.1
    rw [← r2] at hd1
    obtain ⟨x, x1, x2⟩ := up_lt h hz m (by omega) i₉ r1 hd1
    rw [hfirst x x1] at x2
    cases x2
theorem up_root {B : Bas} {most : Nat} {F : List (Nat → Nat)} {par mno dep : Nat → Nat} (h : trOk B most F par mno dep) {z : Nat} (hz : z < F.length) : upT par z (dep z) = 0 := by
  obtain ⟨a, b⟩ := up_ok h hz (dep z) (Nat.le_refl _)
  apply Classical.byContradiction
  intro e
  obtain ⟨-, -, -, q4, -⟩ := h.2.2.2 _ (Nat.pos_of_ne_zero e) a
  omega
theorem csT_len {par mno : Nat → Nat} {z : Nat} : ∀ m, (csT par mno z m).length = m
  | 0 => rfl
  | m + 1 => by unfold csT; rw [List.length_cons, csT_len m]
theorem csT_at {par mno : Nat → Nat} {z : Nat} : ∀ m k, (hk : k < (csT par mno z m).length) → (csT par mno z m)[k] = mno (upT par z (m - 1 - k))
  | 0, k, hk => by cases hk
  | m + 1, 0, hk => rfl
  | m + 1, k + 1, hk => by
    have l := csT_len (par := par) (mno := mno) (z := z) m
    have hk₉ : k < (csT par mno z m).length := by
      have : k + 1 < (csT par mno z m).length + 1 := hk
      omega
    have := csT_at m k hk₉
    show (csT par mno z m)[k] = _
    rw [this]
    have e : m - 1 - k = m + 1 - 1 - (k + 1) := by omega
    rw [e]
/-- no freed stand at all: no distance -/
theorem tr_none {B : Bas} {most : Nat} {F : List (Nat → Nat)} {par mno dep : Nat → Nat} (h : trOk B most F par mno dep) (hno : ∀ a, a < F.length → freedA B (gt F a) = false) {u k : Nat} (hu : u < F.length) : ¬ canD B most k (gt F u) := by
  intro hc
  obtain ⟨x, x1, x2, -⟩ := tr_can h k u hu hc
  rw [hno x x1] at x2
  cases x2
end
section
/-! The reference's isFreedStand, firstFreed, plan. -/
theorem m_isFreedStand {B : Bas} {L : List (Nat → Nat)} {i : Nat} {kk kg kpl : Nat → Int32} (h : basOk B) (hk : ∀ b, b < bn B → kk b = nI (bK B b)) (hg : chG B kg) (hp : rP B L kpl) (hi : i < L.length) (hl : L.length ≤ 6001) (hs : stC B (gt L i)) : f_BargeBasinModel_isFreedStand (nI i) (nI (bn B)) kk kg kpl = some (bI (freedA B (gt L i))) := by
  have n12 := h.2.2.2.2.1
  have loop : ∀ (r b n : Nat), b + r = bn B → r < n → f_BargeBasinModel_isFreedStand_L2 (nI i) (nI (bn B)) kk kg kpl n (nI b) = some (if (List.range' b (bn B - b)).all (fun b => !(decide (bK B b = 5) && decide (gt L i b ≠ bG B b))) then .inr () else .inl ()) := by
    intro r
    induction r with
    | zero =>
      intro b n h1 h2
      obtain ⟨n, rfl⟩ : ∃ z, n = z + 1 := ⟨n - 1, by omega⟩
      have e : b = bn B := by omega
      subst e
      rw [f_BargeBasinModel_isFreedStand_L2, if_pos (nI_le (Nat.le_refl _) (by omega))]
      simp
    | succ r ih =>
      intro b n h1 h2
      obtain ⟨n, rfl⟩ : ∃ z, n = z + 1 := ⟨n - 1, by omega⟩
      have hb : b < bn B := by omega
      obtain ⟨a1, a2, -⟩ := basOk_wh h hb
      have pv := hp i hi b hb
      rw [← gt_at hi] at pv
      have p64 := stC_64 h hs b
      have c5 : (nI (bK B b) = 5) = (bK B b = 5) := nI_eqL (j := 5) (by omega) (by decide)
      rw [f_BargeBasinModel_isFreedStand_L2, if_neg (nI_ge hb (by omega)), idx12, ev_grdN _ a1 (by decide), ev_grdN _ (show 12 * i + b < 72012 by omega) (by decide), ev_grdN _ a1 (by decide), cl_nI a1, nI_clamp (show 12 * i + b < 2 ^ 31 by omega), hk b hb, pv, all_from hb, ev_bnd, nI_1, ih (b + 1) n (by omega) (by omega)]
      simp only [c5]
      by_cases k5 : bK B b = 5
      · have g64 := h.2.2.2.2.2.2 b hb k5
        have ce : (nI (gt L i b) = nI (bG B b)) = (gt L i b = bG B b) := nI_eqL (by omega) (by omega)
        rw [hg b hb k5]
        simp only [ce]
        by_cases e : gt L i b = bG B b
        · have be : (decide (bK B b = 5) && decide (gt L i b ≠ bG B b)) = false := by simp [e]
          rw [be, Bool.not_false, Bool.true_and, if_pos k5, if_pos e]
        · have be : (decide (bK B b = 5) && decide (gt L i b ≠ bG B b)) = true := by simp [k5, e]
          rw [be, if_pos k5, if_neg e]; rfl
      · have be : (decide (bK B b = 5) && decide (gt L i b ≠ bG B b)) = false := by simp [k5]
        rw [be, Bool.not_false, Bool.true_and, if_neg k5]
  unfold f_BargeBasinModel_isFreedStand
  have e := loop (bn B) 0 jN (by omega) (by show bn B < 2000000; omega)
  rw [Nat.sub_zero, ← List.range_eq_range', nI_0] at e
  rw [ev_b _ e]
  unfold freedA
  cases (List.range (bn B)).all (fun b => !(decide (bK B b = 5) && decide (gt L i b ≠ bG B b))) <;> rfl
theorem m_firstFreed {B : Bas} {L : List (Nat → Nat)} {kk kg kpl : Nat → Int32} (h : basOk B) (hk : ∀ b, b < bn B → kk b = nI (bK B b)) (hg : chG B kg) (hp : rP B L kpl) (hl : L.length ≤ 6000) (hs : ∀ P, P ∈ L → stC B P) :
    ∃ o, f_BargeBasinModel_firstFreed (nI (bn B)) (nI L.length) kk kg kpl = some (oI o) ∧ (∀ z, o = some z → z < L.length ∧ freedA B (gt L z) = true ∧ ∀ a, a < z → freedA B (gt L a) = false) ∧ (o = none → ∀ a, a < L.length → freedA B (gt L a) = false) := by
  have loop : ∀ (r i n : Nat), i + r = L.length → r < n → (∀ a, a < i → freedA B (gt L a) = false) → ∃ z, f_BargeBasinModel_firstFreed_L2 (nI (bn B)) (nI L.length) kk kg kpl n (nI i) = some (nI z) ∧ z ≤ L.length ∧ (∀ a, a < z → freedA B (gt L a) = false) ∧ (z < L.length → freedA B (gt L z) = true) := by
    intro r
    induction r with
    | zero =>
      intro i n h1 h2 h3
      obtain ⟨n, rfl⟩ : ∃ z, n = z + 1 := ⟨n - 1, by omega⟩
      exact ⟨i, by rw [f_BargeBasinModel_firstFreed_L2, if_pos (nI_le (by omega) (by omega))], by omega, h3, fun z => by omega⟩
    | succ r ih =>
      intro i n h1 h2 h3
      obtain ⟨n, rfl⟩ : ∃ z, n = z + 1 := ⟨n - 1, by omega⟩
      have hi : i < L.length := by omega
      rw [f_BargeBasinModel_firstFreed_L2, if_neg (nI_ge hi (by omega)), ev_b _ (m_isFreedStand h hk hg hp hi (by omega) (hs _ (gt_mem hi)))]
      cases e : freedA B (gt L i) with
      | true => exact ⟨i, by rw [if_neg (show ¬ bI true = 0 by decide)], by omega, h3, fun _ => e⟩
      | false =>
        rw [if_pos (show bI false = 0 by decide), ev_bnd, nI_1]
        refine ih (i + 1) n (by omega) (by omega) (fun a ha => ?_)
        by_cases z : a = i
        · subst z; exact e
        · exact h3 a (by omega)
  obtain ⟨z, e, z1, z2, z3⟩ := loop L.length 0 jN (by omega) (by show _ < 2000000; omega) (fun a ha => by omega)
  rw [nI_0] at e
  unfold f_BargeBasinModel_firstFreed
  rw [ev_b _ e]
  by_cases c : z < L.length
  · exact ⟨some z, by rw [if_neg (nI_ge c (by omega))]; rfl, fun y hy => by cases hy; exact ⟨c, z3 c, z2⟩, fun y => by cases y⟩
  · exact ⟨none, by rw [if_pos (nI_le (by omega) (by omega))]; rfl, fun y hy => by (cases hy), fun _ a ha => z2 a (by omega)⟩
theorem m_planL53 {B : Bas} {most : Nat} {F : List (Nat → Nat)} {A : List (Nat × Nat)} {par mno dep : Nat → Nat} {kdp kpr kbb kby kbs : Nat → Int32} {z : Nat} (ht : tR F A par mno dep kdp kpr kbb kby kbs) (tr : trOk B most F par mno dep) (hz : z < F.length) (hl : F.length ≤ 6000) :
    ∀ (r m n : Nat) (pb pw ps : Nat → Int32), r + m = dep z → r < n → ∃ pb₉ pw₉ ps₉, f_BargeBasinModel_plan_L53 kpr kbb kby kbs n (nI (upT par z m)) (nI r - 1) pb pw ps = some (pb₉, pw₉, ps₉) ∧
      (∀ j, j < r → pb₉ j = nI (mno (upT par z (dep z - 1 - j)) / 32) ∧ pw₉ j = nI (mno (upT par z (dep z - 1 - j)) / 8 % 4) ∧ ps₉ j = nI (mno (upT par z (dep z - 1 - j)) % 8)) ∧ (∀ j, r ≤ j → pb₉ j = pb j ∧ pw₉ j = pw j ∧ ps₉ j = ps j) := by
  have dz := (ht.2.1 z hz).2
  intro r
  induction r with
  | zero =>
    intro m n pb pw ps h1 h2
    obtain ⟨n, rfl⟩ : ∃ z, n = z + 1 := ⟨n - 1, by omega⟩
    exact ⟨pb, pw, ps, by rw [f_BargeBasinModel_plan_L53, if_pos (show nI 0 - 1 < 0 by decide)], fun j hj => by omega, fun j _ => ⟨rfl, rfl, rfl⟩⟩
  | succ r ih =>
    intro m n pb pw ps h1 h2
    obtain ⟨n, rfl⟩ : ∃ z, n = z + 1 := ⟨n - 1, by omega⟩
    obtain ⟨u1, u2⟩ := up_ok tr hz m (by omega)
    have p := up_pos tr hz (show m < dep z by omega)
    obtain ⟨a1, a2, a3, a4, a5, a6, a7, a8, a9⟩ := ht.2.2 _ p u1
    obtain ⟨pb₉, pw₉, ps₉, e, q1, q2⟩ := ih (m + 1) n (upd pb r (nI (mno (upT par z m) / 32))) (upd pw r (nI (mno (upT par z m) / 8 % 4))) (upd ps r (nI (mno (upT par z m) % 8))) (by omega) (by omega)
    refine ⟨pb₉, pw₉, ps₉, ?_, ?_, ?_⟩
    · have e₉ : f_BargeBasinModel_plan_L53 kpr kbb kby kbs n (nI (par (upT par z m))) (nI r - 1) (upd pb r (nI (mno (upT par z m) / 32))) (upd pw r (nI (mno (upT par z m) / 8 % 4))) (upd ps r (nI (mno (upT par z m) % 8))) = some (pb₉, pw₉, ps₉) := e
      rw [f_BargeBasinModel_plan_L53, nI_pred, if_neg (nI_pos (by omega))]
      simp only [ev_grdN _ (show upT par z m < 6001 by omega) (show 6001 < 2 ^ 31 by decide), ev_grdN _ (show r < 6000 by omega) (show 6000 < 2 ^ 31 by decide), ev_bnd, nI_clamp (show upT par z m < 2 ^ 31 by omega), nI_clamp (show r < 2 ^ 31 by omega), a3, a4, a5, a6, ← Int32.sub_eq_add_neg]
      exact e₉
    · intro j hj
      by_cases y : j = r
      · subst y
        obtain ⟨b1, b2, b3⟩ := q2 j (Nat.le_refl _)
        rw [b1, b2, b3, pk_us, pk_us, pk_us, show dep z - 1 - j = m by omega]
        exact ⟨rfl, rfl, rfl⟩
      · exact q1 j (by omega)
    · intro j hj
      obtain ⟨b1, b2, b3⟩ := q2 j (by omega)
      rw [b1, b2, b3, pk_un (by omega), pk_un (by omega), pk_un (by omega)]
      exact ⟨rfl, rfl, rfl⟩
/-- a plan of codes in the reference's three rows -/
def plW (cs : List Nat) (pb pw ps : Nat → Int32) : Prop := ∀ j, (hj : j < cs.length) → pb j = nI (cs[j] / 32) ∧ pw j = nI (cs[j] / 8 % 4) ∧ ps j = nI (cs[j] % 8)
/-- what a search for a plan comes to -/
def plX (B : Bas) (most : Nat) (P : Nat → Nat) (ans status : Int32) (new : Option (List Nat)) : Prop :=
  (6000 < (FL B 7 P).length ∧ ans = -1 ∧ status = 10 ∧ new = none) ∨ ((FL B 7 P).length ≤ 6000 ∧ (∀ k, ¬ canD B most k P) ∧ ans = -1 ∧ status = 11 ∧ new = none) ∨
  ((FL B 7 P).length ≤ 6000 ∧ ∃ k cs, isD B most P k ∧ gPath B most k P cs ∧ k < 6000 ∧ ans = nI k ∧ status = 0 ∧ new = some cs)
theorem plX_u {B : Bas} {most : Nat} {P : Nat → Nat} {a a₉ s s₉ : Int32} {n n₉ : Option (List Nat)} (h1 : plX B most P a s n) (h2 : plX B most P a₉ s₉ n₉) : a = a₉ ∧ s = s₉ ∧ n = n₉ := by
  rcases h1 with ⟨p1, p2, p3, p4⟩ | ⟨p1, p5, p2, p3, p4⟩ | ⟨p1, k, cs, p5, p6, -, p2, p3, p4⟩ <;> rcases h2 with ⟨q1, q2, q3, q4⟩ | ⟨q1, q5, q2, q3, q4⟩ | ⟨q1, k₉, cs₉, q5, q6, -, q2, q3, q4⟩
  · exact ⟨by rw [p2, q2], by rw [p3, q3], by rw [p4, q4]⟩
  · omega
  · omega
  · omega
  · exact ⟨by rw [p2, q2], by rw [p3, q3], by rw [p4, q4]⟩
  · exact absurd q5.1 (p5 k₉)
  · omega
  · exact absurd p5.1 (q5 k)
  · have e := isD_u p5 q5
    subst e
    exact ⟨by rw [p2, q2], by rw [p3, q3], by rw [p4, q4, gPath_u p6 q6]⟩
theorem m_plan {B : Bas} {sg : Bool} {most : Nat} {P : Nat → Nat} {kwl kk kat ks ky kg : Nat → Int32} (h : basOk B) (hP : stC B P) (hr : rfB B kk ks ky) (hwl : rfW B kwl) (hp : chP B P kat) (hg : chG B kg) (hmost : most = if sg then 1 else 7) (khp kpm st0 ed0 : Int32) (pb pw ps kpl khd kch kdp kpr kbb kby kbs kfe ked keb kwho kh : Nat → Int32) :
    ∃ (ans status khp₉ kpm₉ st ed : Int32) (pb₉ pw₉ ps₉ kpl₉ khd₉ kch₉ kdp₉ kpr₉ kbb₉ kby₉ kbs₉ kfe₉ ked₉ keb₉ kwho₉ kh₉ : Nat → Int32) (new : Option (List Nat)), f_BargeBasinModel_plan (bI sg) 0 (nI (bw B)) (nI (bh B)) (nI (bn B)) khp kpm st0 ed0 kwl kk kat ks ky kg pb pw ps kpl khd kch kdp kpr kbb kby kbs kfe ked keb kwho kh = some (ans, status, khp₉, kpm₉, st, ed, pb₉, pw₉, ps₉, kpl₉, khd₉, kch₉, kdp₉, kpr₉, kbb₉, kby₉, kbs₉, kfe₉, ked₉, keb₉, kwho₉, kh₉) ∧
      plX B most P ans status new ∧ (new = none → khp₉ = khp ∧ kpm₉ = kpm ∧ pb₉ = pb ∧ pw₉ = pw ∧ ps₉ = ps) ∧ (∀ cs, new = some cs → khp₉ = 1 ∧ kpm₉ = nI cs.length ∧ cs.length ≤ 6000 ∧ plW cs pb₉ pw₉ ps₉) := by
  obtain ⟨well, st, ed, b1, b2, b3, b4, b5, b6, b7, b8, b9, b10, b11, b12, b13, f1, f2, f3⟩ := m_looksAtAll h hP hr hwl hp hmost st0 ed0 kpl khd kch kdp kpr kbb kby kbs kfe ked keb kwho kh
  have m17 : ((FL B most P).length ≤ 6000 ↔ (FL B 7 P).length ≤ 6000) := by
    cases sg with
    | true => rw [hmost]; exact (FL_17 h hP).1
    | false => rw [hmost]; exact Iff.rfl
  unfold f_BargeBasinModel_plan
  rw [ev_b _ f1, un16_ap]
  cases well with
  | false =>
    have l := f3 rfl
    rw [if_pos (show bI false = 0 by decide)]
    refine ⟨-1, 10, khp, kpm, st, ed, pb, pw, ps, b1, b2, b3, b4, b5, b6, b7, b8, b9, b10, b11, b12, b13, none, rfl, Or.inl ⟨?_, rfl, rfl, rfl⟩, fun _ => ⟨rfl, rfl, rfl, rfl, rfl⟩, fun cs z => by (cases z)⟩
    apply Nat.lt_of_not_le
    intro z
    have := m17.mpr z
    omega
  | true =>
    obtain ⟨g1, g2, ⟨g3, g4⟩, g5⟩ := f2 rfl
    subst g2
    have l7 := m17.mp g1
    obtain ⟨-, -, par, mno, dep, ht⟩ := id g4
    have tr := tr_of FL_nd (FL_clsd g1) ht
    obtain ⟨o, e1, o1, o2⟩ := m_firstFreed h (fun b hb => (hr b hb).1) hg g3.2.1 g1 g3.1
    obtain ⟨z0, z1⟩ := FL_0 (B := B) (most := most) (P := P)
    have gP : gt (FL B most P) 0 = P := by rw [gt_at z0]; exact z1
    rw [if_neg (show ¬ bI true = 0 by decide), ev_b _ e1]
    cases o with
    | none =>
      rw [if_neg (show ¬ 0 ≤ oI none by decide)]
      refine ⟨-1, 11, khp, kpm, _, ed, pb, pw, ps, b1, b2, b3, b4, b5, b6, b7, b8, b9, b10, b11, b12, b13, none, rfl, Or.inr (Or.inl ⟨l7, fun k hc => ?_, rfl, rfl, rfl⟩), fun _ => ⟨rfl, rfl, rfl, rfl, rfl⟩, fun cs z => by (cases z)⟩
      exact tr_none tr (o2 rfl) z0 (by rw [gP]; exact hc)
    | some z =>
      obtain ⟨y1, y2, y3⟩ := o1 z rfl
      have dz := ht.2.1 z y1
      obtain ⟨pb₉, pw₉, ps₉, e2, q1, -⟩ := m_planL53 ht tr y1 g1 (dep z) 0 jN pb pw ps (by omega) (by show _ < 2000000; omega)
      obtain ⟨t1, t2⟩ := tr_plan tr y1 y2 y3 (dep z) (Nat.le_refl _)
      rw [up_root tr y1, gP] at t1 t2
      rw [show oI (some z) = nI z from rfl, if_pos (nI_pos' (by omega)), ev_grdN _ (show z < 6001 by omega) (by decide), ev_bnd, ev_bnd, nI_clamp (show z < 2 ^ 31 by omega), dz.1, ev_b _ (show f_BargeBasinModel_plan_L53 b5 b6 b7 b8 jN (nI z) (nI (dep z) - 1) pb pw ps = _ from e2), un3_ap]
      refine ⟨nI (dep z), 0, 1, nI (dep z), _, ed, pb₉, pw₉, ps₉, b1, b2, b3, b4, b5, b6, b7, b8, b9, b10, b11, b12, b13, some (csT par mno z (dep z)), rfl, Or.inr (Or.inr ⟨l7, dep z, _, t1, t2, by omega, rfl, rfl, rfl⟩), fun y => by (cases y), fun cs y => ?_⟩
      cases y
      have cl := csT_len (par := par) (mno := mno) (z := z) (dep z)
      refine ⟨rfl, by rw [cl], by omega, fun j hj => ?_⟩
      rw [csT_at (dep z) j hj]
      exact q1 j (by omega)
end
section
/-! ways of the reference. -/
theorem cmpGE {x y : Int64} : (0 ≤ lg_cmp x y) = (¬ x < y) := by
  have e := cmpL (x := x) (y := y)
  refine propext ⟨fun h z => ?_, fun h => ?_⟩
  · have := e.mpr z
    rw [Int32.le_iff_toInt_le] at h
    rw [Int32.lt_iff_toInt_lt] at this
    omega
  · have : ¬ lg_cmp x y < 0 := fun z => h (e.mp z)
    rw [Int32.lt_iff_toInt_lt] at this
    rw [Int32.le_iff_toInt_le]
    omega
theorem m_plus (x y : Nat) : f_BargeBasinModel_plus (lN (capM x)) (lN (capM y)) = some (lN (capM (x + y))) := by
  have hx := capM_le x
  have hy := capM_le y
  have e := capM_add x y
  unfold f_BargeBasinModel_plus
  simp only [cmpGE, lN_add]
  rw [← e]
  have eM : (4611686018427387904 : Int64) = lN 4611686018427387904 := rfl
  by_cases c : capM x + capM y = 9223372036854775808
  · rw [c]
    rw [if_neg (show ¬ ¬ lN 9223372036854775808 < 4611686018427387904 by decide), if_neg (show ¬ ¬ lN 9223372036854775808 < 0 by decide)]
    rfl
  · have lt : capM x + capM y < 2 ^ 63 := by omega
    by_cases d : capM x + capM y < 4611686018427387904
    · have l1 : lN (capM x + capM y) < 4611686018427387904 := (pk_lLT lt (show 4611686018427387904 < 2 ^ 63 by decide)).mpr d
      have l2 : ¬ lN (capM x + capM y) < 0 := fun z => by
        have := (pk_lLT lt (show 0 < 2 ^ 63 by decide)).mp z
        omega
      rw [if_neg (fun z => z l1), if_pos l2]
      refine congrArg some (congrArg lN ?_)
      show _ = min 4611686018427387904 (capM x + capM y)
      omega
    · have l1 : ¬ lN (capM x + capM y) < 4611686018427387904 := fun z => d ((pk_lLT lt (show 4611686018427387904 < 2 ^ 63 by decide)).mp z)
      rw [if_pos l1, eM]
      refine congrArg some (congrArg lN ?_)
      show _ = min 4611686018427387904 (capM x + capM y)
      omega
theorem prA_pre {B : Bas} {most : Nat} {L : List (Nat → Nat)} {u : Nat} : ∀ k, ∃ r, prA B most L (u + k) = prA B most L u ++ r
  | 0 => ⟨[], by simp⟩
  | k + 1 => by
    obtain ⟨r, e⟩ := prA_pre k (B := B) (most := most) (L := L) (u := u)
    exact ⟨r ++ prs (u + k) (mvs B (gt L (u + k)) most false), by rw [← Nat.add_assoc, prA_s, e, List.append_assoc]⟩
theorem prA_at {B : Bas} {most : Nat} {L : List (Nat → Nat)} {u n j : Nat} (hu : u < n) (hj : j < (mvs B (gt L u) most false).length) : ∃ h : (prA B most L u).length + j < (prA B most L n).length, (prA B most L n)[(prA B most L u).length + j] = (u, (mvs B (gt L u) most false)[j]) := by
  obtain ⟨r, e⟩ := prA_pre (B := B) (most := most) (L := L) (u := u + 1) (n - (u + 1))
  rw [show u + 1 + (n - (u + 1)) = n by omega, prA_s] at e
  have l : (prA B most L u).length + j < (prA B most L n).length := by
    rw [e, List.length_append, List.length_append, prs_len]; omega
  refine ⟨l, ?_⟩
  simp only [e]
  rw [List.getElem_append_left (by rw [List.length_append, prs_len]; omega), List.getElem_append_right (by omega)]
  simp [prs]
def psi (B : Bas) (but : Option Nat) (F : List (Nat → Nat)) (dep : Nat → Nat) (D u : Nat) : Nat := if dep u ≤ D then cntS B but (D - dep u) (gt F u) else 0
theorem m_wyL123 {B : Bas} {but : Option Nat} {F : List (Nat → Nat)} {par mno dep : Nat → Nat} {z u : Nat} {v4 : Int64} {kdp kfe ked keb : Nat → Int32} (h : basOk B) (hl : F.length ≤ 6000) (tr : trOk B 7 F par mno dep) (hz : z < F.length) (hfirst : ∀ a, a < F.length → freedA B (gt F a) = true → z ≤ a) (hdep : ∀ i, i < F.length → kdp i = nI (dep i) ∧ dep i ≤ i)
    (he : eR F (prA B 7 F F.length) ked keb) (hfe : ∀ s, s ≤ F.length → kfe s = nI (prA B 7 F s).length) (hal : (prA B 7 F F.length).length ≤ 1010000) (hbut : ∀ b, but = some b → b < 12) (hu : u < F.length) (hmv : (mvs B (gt F u) 7 false).length ≤ 168) :
    ∀ (r j n : Nat) (W : Nat → Nat) (kc : Nat → Int64), j + r = (mvs B (gt F u) 7 false).length → r < n → wR F.length kc W →
      ∃ W₉ kc₉, f_BargeBasinModel_ways_L123 (oI but) (nI (dep z)) v4 (nI u) kdp kfe ked keb n (nI ((prA B 7 F u).length + j)) kc = some kc₉ ∧ wR F.length kc₉ W₉ ∧ W₉ u = W u ∧
        sumQ W₉ (psi B but F dep (dep z)) (List.range' (u + 1) (F.length - (u + 1))) = sumQ W (psi B but F dep (dep z)) (List.range' (u + 1) (F.length - (u + 1))) + (if dep u < dep z then W u * (((mvs B (gt F u) 7 false).drop j).map fun c => if some (c / 32) = but then 0 else cntS B but (dep z - dep u - 1) (tgt (gt F u) c)).sum else 0) := by
  obtain ⟨d1, d2⟩ := hdep u hu
  have dz := (hdep z hz).2
  have plen : (prA B 7 F (u + 1)).length = (prA B 7 F u).length + (mvs B (gt F u) 7 false).length := by rw [prA_s, List.length_append, prs_len]
  have ple : (prA B 7 F (u + 1)).length ≤ (prA B 7 F F.length).length := by
    obtain ⟨r, e⟩ := prA_pre (B := B) (most := 7) (L := F) (u := u + 1) (F.length - (u + 1))
    rw [show u + 1 + (F.length - (u + 1)) = F.length by omega] at e
    rw [e, List.length_append]; omega
  intro r
  induction r with
  | zero =>
    intro j n W kc h1 h2 h3
    obtain ⟨n, rfl⟩ : ∃ y, n = y + 1 := ⟨n - 1, by omega⟩
    refine ⟨W, kc, ?_, h3, rfl, ?_⟩
    · rw [f_BargeBasinModel_ways_L123, nI_1, ev_grdN _ (show u + 1 < 6002 by omega) (by decide), nI_clamp (show u + 1 < 2 ^ 31 by omega), hfe (u + 1) (by omega), if_pos (nI_le (by omega) (by omega))]
    · rw [List.drop_of_length_le (show (mvs B (gt F u) 7 false).length ≤ j by omega)]
      simp
  | succ r ih =>
    intro j n W kc h1 h2 h3
    obtain ⟨n, rfl⟩ : ∃ y, n = y + 1 := ⟨n - 1, by omega⟩
    have hj : j < (mvs B (gt F u) 7 false).length := by omega
    obtain ⟨l1, l2⟩ := prA_at (B := B) (most := 7) (L := F) hu hj
    obtain ⟨a, a1, a2, a3, a4⟩ := he _ l1
    rw [l2] at a3 a4
    simp only at a3 a4
    have hc : (mvs B (gt F u) 7 false)[j] ∈ mvs B (gt F u) 7 false := List.getElem_mem hj
    have c4 := mvs_400 h hc
    obtain ⟨e1, e2⟩ := hdep a a1
    rw [f_BargeBasinModel_ways_L123, nI_1, ev_grdN _ (show u + 1 < 6002 by omega) (by decide), nI_clamp (show u + 1 < 2 ^ 31 by omega), hfe (u + 1) (by omega), if_neg (nI_ge (by omega) (by omega)), ev_grdN _ (show u < 6001 by omega) (by decide), nI_clamp (show u < 2 ^ 31 by omega), d1]
    by_cases lt : dep u < dep z
    · rw [if_neg (nI_ge lt (by omega)), ev_grdN _ (show (prA B 7 F u).length + j < 1010000 by omega) (by decide), ev_bnd, nI_clamp (show (prA B 7 F u).length + j < 2 ^ 31 by omega), a2, a4, ev_grdN _ (show a < 6001 by omega) (by decide), ev_grdN _ (show u < 6001 by omega) (by decide), nI_clamp (show a < 2 ^ 31 by omega), e1, nI_1]
      rw [if_pos lt, List.drop_eq_getElem_cons hj, List.map_cons, List.sum_cons]
      have ce : (nI (dep a) = nI (dep u + 1)) = (dep a = dep u + 1) := nI_eqL (by omega) (by omega)
      simp only [ce]
      have skip : (if some ((mvs B (gt F u) 7 false)[j] / 32) = but then 0 else cntS B but (dep z - dep u - 1) (tgt (gt F u) (mvs B (gt F u) 7 false)[j])) = 0 →
          ∃ W₉ kc₉, f_BargeBasinModel_ways_L123 (oI but) (nI (dep z)) v4 (nI u) kdp kfe ked keb n (nI ((prA B 7 F u).length + j) + 1) kc = some kc₉ ∧ wR F.length kc₉ W₉ ∧ W₉ u = W u ∧
          sumQ W₉ (psi B but F dep (dep z)) (List.range' (u + 1) (F.length - (u + 1))) = sumQ W (psi B but F dep (dep z)) (List.range' (u + 1) (F.length - (u + 1))) + W u * ((if some ((mvs B (gt F u) 7 false)[j] / 32) = but then 0 else cntS B but (dep z - dep u - 1) (tgt (gt F u) (mvs B (gt F u) 7 false)[j])) + (((mvs B (gt F u) 7 false).drop (j + 1)).map fun c => if some (c / 32) = but then 0 else cntS B but (dep z - dep u - 1) (tgt (gt F u) c)).sum) := by
        intro y
        have := ih (j + 1) n W kc (by omega) (by omega) h3
        rw [if_pos lt] at this
        rw [y, Nat.zero_add, nI_1]
        exact this
      have cb : (nI ((mvs B (gt F u) 7 false)[j] / 32) = oI but) = (some ((mvs B (gt F u) 7 false)[j] / 32) = but) := by
        have q := oI_eq (o := but) (b := (mvs B (gt F u) 7 false)[j] / 32) (by omega) (fun c hc => by have := hbut c hc; omega)
        refine propext ⟨fun y => (q.mp y.symm).symm, fun y => (q.mpr y.symm).symm⟩
      have te := tr_edge tr hu a1 hc a3
      by_cases de : dep a = dep u + 1
      · rw [if_pos de, ev_grdN _ (show (prA B 7 F u).length + j < 1010000 by omega) (by decide)]
        by_cases eb : some ((mvs B (gt F u) 7 false)[j] / 32) = but
        · rw [if_pos (cb.mpr eb), ev_bnd]
          exact skip (by rw [if_pos eb])
        · have au : u < a := by
            apply Nat.lt_of_not_le
            intro y
            have := tr_mono tr u hu a y
            omega
          rw [if_neg (fun y => eb (cb.mp y)), ev_grdN _ (show a < 6001 by omega) (by decide), ev_grdN _ (show u < 6001 by omega) (by decide), h3 a a1, h3 u hu, ev_b _ (m_plus _ _), ev_grdN _ (show a < 6001 by omega) (by decide), ev_bnd, nI_1]
          obtain ⟨W2, kc2, f1, f2, f3, f4⟩ := ih (j + 1) n (updN W a (W a + W u)) (vp_updL kc a (lN (capM (W a + W u)))) (by omega) (by omega) (wR_upd h3)
          have una : updN W a (W a + W u) u = W u := updN_n (by omega)
          refine ⟨W2, kc2, f1, f2, by rw [f3, una], ?_⟩
          have md : a ∈ List.range' (u + 1) (F.length - (u + 1)) := by
            rw [List.mem_range'_1]; omega
          rw [f4, if_pos lt, sumQ_in (List.nodup_range' (step := 1)) md, una, if_neg eb, Nat.mul_add]
          have ps : psi B but F dep (dep z) a = cntS B but (dep z - dep u - 1) (tgt (gt F u) (mvs B (gt F u) 7 false)[j]) := by
            unfold psi
            rw [if_pos (show dep a ≤ dep z by omega), ← a3, show dep z - dep a = dep z - dep u - 1 by omega]
          rw [ps]
          omega
      · rw [if_neg de, ev_bnd]
        refine skip ?_
        split
        · rfl
        · refine cnt_far (fun y => ?_)
          rw [← a3] at y
          obtain ⟨x, x1, x2, x3⟩ := tr_can tr _ a a1 y
          have zx := hfirst x x1 x2
          have := tr_mono tr x x1 z zx
          omega
    · rw [if_pos (nI_le (by omega) (by omega))]
      exact ⟨W, kc, rfl, h3, rfl, by rw [if_neg lt]; exact (Nat.add_zero _).symm⟩
theorem m_wyL71 {B : Bas} {but : Option Nat} {F : List (Nat → Nat)} {par mno dep : Nat → Nat} {z : Nat} {kk kg kpl kdp kfe ked keb : Nat → Int32} (h : basOk B) (hl : F.length ≤ 6000) (hst : ∀ P, P ∈ F → stC B P) (hk : ∀ b, b < bn B → kk b = nI (bK B b)) (hg : chG B kg) (hp : rP B F kpl) (tr : trOk B 7 F par mno dep) (hz : z < F.length) (hfirst : ∀ a, a < F.length → freedA B (gt F a) = true → z ≤ a) (hdep : ∀ i, i < F.length → kdp i = nI (dep i) ∧ dep i ≤ i)
    (he : eR F (prA B 7 F F.length) ked keb) (hfe : ∀ s, s ≤ F.length → kfe s = nI (prA B 7 F s).length) (hal : (prA B 7 F F.length).length ≤ 1010000) (hbut : ∀ b, but = some b → b < 12) :
    ∀ (r u n : Nat) (W : Nat → Nat) (pl tot : Nat) (kc : Nat → Int64), u + r = F.length → r < n → wR F.length kc W → sumQ W (psi B but F dep (dep z)) (List.range' u (F.length - u)) + pl = tot →
      ∃ kc₉, f_BargeBasinModel_ways_L71 (oI but) (nI (dep z)) (nI (bn B)) (nI F.length) kk kg kpl kdp kfe ked keb n (lN (capM pl)) (nI u) kc = some (lN (capM tot), kc₉) := by
  have dz := (hdep z hz).2
  intro r
  induction r with
  | zero =>
    intro u n W pl tot kc h1 h2 h3 h4
    obtain ⟨n, rfl⟩ : ∃ y, n = y + 1 := ⟨n - 1, by omega⟩
    rw [show F.length - u = 0 by omega] at h4
    have : pl = tot := by simpa [sumQ] using h4
    exact ⟨kc, by rw [f_BargeBasinModel_ways_L71, if_pos (nI_le (by omega) (by omega)), this]⟩
  | succ r ih =>
    intro u n W pl tot kc h1 h2 h3 h4
    obtain ⟨n, rfl⟩ : ∃ y, n = y + 1 := ⟨n - 1, by omega⟩
    have hu : u < F.length := by omega
    obtain ⟨d1, d2⟩ := hdep u hu
    have mv := mvs_168 (most := 7) (bk := false) h (hst _ (gt_mem hu)).1
    rw [show F.length - u = (F.length - (u + 1)) + 1 by omega, List.range'_succ, sumQ_cons] at h4
    have fr := m_isFreedStand h hk hg hp hu (by omega) (hst _ (gt_mem hu))
    -- what stands at u, once it is counted
    have J : ∀ (pl2 : Nat), sumQ W (psi B but F dep (dep z)) (List.range' (u + 1) (F.length - (u + 1))) + (if dep u < dep z then W u * psi B but F dep (dep z) u else 0) + pl2 = tot →
        ∃ kc₉, f_BargeBasinModel_ways_J114 (f_BargeBasinModel_ways_L71 (oI but) (nI (dep z)) (nI (bn B)) (nI F.length) kk kg kpl kdp kfe ked keb n) (oI but) (nI (dep z)) (lN (capM pl2)) (nI u) kdp kfe ked keb kc = some (lN (capM tot), kc₉) := by
      intro pl2 hpl
      obtain ⟨W1, kc1, f1, f2, f3, f4⟩ := m_wyL123 (but := but) (v4 := lN (capM pl2)) h hl tr hz hfirst hdep he hfe hal hbut hu mv (mvs B (gt F u) 7 false).length 0 jN W kc (by omega) (by show _ < 2000000; omega) h3
      obtain ⟨kc2, e2⟩ := ih (u + 1) n W1 pl2 tot kc1 (by omega) (by omega) f2 (by
        rw [f4, List.drop_zero]
        by_cases lt : dep u < dep z
        · rw [if_pos lt]
          rw [if_pos lt] at hpl
          have ps : psi B but F dep (dep z) u = ((mvs B (gt F u) 7 false).map fun c => if some (c / 32) = but then 0 else cntS B but (dep z - dep u - 1) (tgt (gt F u) c)).sum := by
            unfold psi
            rw [if_pos (show dep u ≤ dep z by omega)]
            obtain ⟨m, hm⟩ : ∃ m, dep z - dep u = m + 1 := ⟨dep z - dep u - 1, by omega⟩
            rw [hm, Nat.add_sub_cancel]
            rfl
          rw [← ps]
          exact hpl
        · rw [if_neg lt]
          rw [if_neg lt] at hpl
          exact hpl)
      refine ⟨kc2, ?_⟩
      unfold f_BargeBasinModel_ways_J114
      rw [Nat.add_zero] at f1
      rw [ev_grdN _ (show u < 6002 by omega) (by decide), ev_bnd, nI_clamp (show u < 2 ^ 31 by omega), hfe u (by omega), ev_b _ f1, ev_bnd, nI_1, e2]
    rw [f_BargeBasinModel_ways_L71, if_neg (nI_ge hu (by omega)), ev_grdN _ (show u < 6001 by omega) (by decide), nI_clamp (show u < 2 ^ 31 by omega), d1, ev_b _ fr]
    have ce : (nI (dep u) = nI (dep z)) = (dep u = dep z) := nI_eqL (by omega) (by omega)
    simp only [ce]
    by_cases de : dep u = dep z
    · rw [if_pos de]
      have ps : psi B but F dep (dep z) u = if freedA B (gt F u) then 1 else 0 := by
        unfold psi
        rw [if_pos (show dep u ≤ dep z by omega), show dep z - dep u = 0 by omega]
        rfl
      rw [ps] at h4
      cases ef : freedA B (gt F u) with
      | false =>
        rw [ef, if_neg (show ¬ false = true by decide), Nat.mul_zero] at h4
        rw [if_pos (show bI false = 0 by decide)]
        exact J pl (by rw [if_neg (by omega)]; omega)
      | true =>
        rw [ef, if_pos (show true = true from rfl), Nat.mul_one] at h4
        rw [if_neg (show ¬ bI true = 0 by decide), ev_grdN _ (show u < 6001 by omega) (by decide), h3 u hu, ev_b _ (m_plus _ _)]
        exact J (pl + W u) (by rw [if_neg (by omega)]; omega)
    · rw [if_neg de]
      refine J pl ?_
      by_cases lt : dep u < dep z
      · rw [if_pos lt]; omega
      · rw [if_neg lt]
        have ps : psi B but F dep (dep z) u = 0 := by unfold psi; rw [if_neg (by omega)]
        rw [ps, Nat.mul_zero] at h4
        omega
/-- what a count of plans comes to -/
def wyX (B : Bas) (but : Option Nat) (P : Nat → Nat) (n : Int64) : Prop :=
  (6000 < (FL B 7 P).length ∧ n = -10) ∨ ((FL B 7 P).length ≤ 6000 ∧ (∀ k, ¬ canD B 7 k P) ∧ n = -11) ∨ ((FL B 7 P).length ≤ 6000 ∧ ∃ k, isD B 7 P k ∧ n = lN (capM (cntS B but k P)))
theorem m_ways {B : Bas} {but : Option Nat} {P : Nat → Nat} {kwl kk kat ks ky kg : Nat → Int32} (h : basOk B) (hP : stC B P) (hr : rfB B kk ks ky) (hwl : rfW B kwl) (hp : chP B P kat) (hg : chG B kg) (hbut : ∀ b, but = some b → b < 12) (st0 ed0 : Int32) (kpl khd kch kdp kpr kbb kby kbs kfe ked keb : Nat → Int32) (kc : Nat → Int64) (kwho kh : Nat → Int32) :
    ∃ (n : Int64) (st ed : Int32) (kpl₉ khd₉ kch₉ kdp₉ kpr₉ kbb₉ kby₉ kbs₉ kfe₉ ked₉ keb₉ : Nat → Int32) (kc₉ : Nat → Int64) (kwho₉ kh₉ : Nat → Int32), f_BargeBasinModel_ways (oI but) (nI (bw B)) (nI (bh B)) (nI (bn B)) st0 ed0 kwl kk kat ks ky kg kpl khd kch kdp kpr kbb kby kbs kfe ked keb kc kwho kh = some (n, st, ed, kpl₉, khd₉, kch₉, kdp₉, kpr₉, kbb₉, kby₉, kbs₉, kfe₉, ked₉, keb₉, kc₉, kwho₉, kh₉) ∧ wyX B but P n := by
  obtain ⟨well, st, ed, b1, b2, b3, b4, b5, b6, b7, b8, b9, b10, b11, b12, b13, f1, f2, f3⟩ := m_looksAtAll (sg := false) h hP hr hwl hp rfl st0 ed0 kpl khd kch kdp kpr kbb kby kbs kfe ked keb kwho kh
  rw [show bI false = (0 : Int32) from rfl] at f1
  unfold f_BargeBasinModel_ways
  rw [ev_b _ f1, un16_ap]
  cases well with
  | false =>
    rw [if_pos (show bI false = 0 by decide)]
    exact ⟨_, _, _, _, _, _, _, _, _, _, _, _, _, _, _, _, _, rfl, Or.inl ⟨f3 rfl, rfl⟩⟩
  | true =>
    obtain ⟨g1, g2, ⟨g3, g4⟩, g5⟩ := f2 rfl
    subst g2
    have g1₉ : (FL B 7 P).length ≤ 6000 := g1
    obtain ⟨-, er, par, mno, dep, ht⟩ := id g4
    have tr := tr_of FL_nd (FL_clsd g1) ht
    obtain ⟨o, e1, o1, o2⟩ := m_firstFreed h (fun b hb => (hr b hb).1) hg g3.2.1 g1 g3.1
    obtain ⟨z0, z1⟩ := FL_0 (B := B) (most := 7) (P := P)
    have gP : gt (FL B 7 P) 0 = P := by rw [gt_at z0]; exact z1
    rw [if_neg (show ¬ bI true = 0 by decide), ev_b _ e1]
    cases o with
    | none =>
      rw [if_neg (show ¬ 0 ≤ oI none by decide)]
      exact ⟨_, _, _, _, _, _, _, _, _, _, _, _, _, _, _, _, _, rfl, Or.inr (Or.inl ⟨g1₉, fun k hc => tr_none tr (o2 rfl) z0 (by rw [show gt (FL B (if false = true then 1 else 7) P) 0 = P from gP]; exact hc), rfl⟩)⟩
    | some z =>
      obtain ⟨y1, y2, y3⟩ := o1 z rfl
      have dz := ht.2.1 z y1
      have fz : ∀ a, a < (FL B 7 P).length → freedA B (gt (FL B 7 P) a) = true → z ≤ a := by
        intro a ha hf
        apply Nat.le_of_not_lt
        intro y
        have := y3 a y
        rw [show gt (FL B (if false = true then 1 else 7) P) a = gt (FL B 7 P) a from rfl, hf] at this
        cases this
      obtain ⟨t1, t2⟩ := tr_plan tr y1 y2 y3 (dep z) (Nat.le_refl _)
      rw [up_root tr y1, show gt (FL B (if false = true then 1 else 7) P) 0 = P from gP] at t1
      have al : (prA B 7 (FL B 7 P) (FL B 7 P).length).length ≤ 1010000 := by
        have := prA_len (B := B) (most := 7) (L := FL B 7 P) h g3.1 (Nat.le_refl _)
        omega
      have loop : ∀ (r u n : Nat) (kw : Nat → Int64), u + r = (FL B 7 P).length → r < n → (∀ v, v < u → kw v = 0) → ∃ kw₉, f_BargeBasinModel_ways_L35 (oI but) (nI (dep z)) (nI (FL B 7 P).length) n (nI u) kw = some kw₉ ∧ ∀ v, v < (FL B 7 P).length → kw₉ v = 0 := by
        intro r
        induction r with
        | zero =>
          intro u n kw h1 h2 h3
          obtain ⟨n, rfl⟩ : ∃ z, n = z + 1 := ⟨n - 1, by omega⟩
          exact ⟨kw, by rw [f_BargeBasinModel_ways_L35, if_pos (nI_le (by omega) (by omega))], fun v hv => h3 v (by omega)⟩
        | succ r ih =>
          intro u n kw h1 h2 h3
          obtain ⟨n, rfl⟩ : ∃ z, n = z + 1 := ⟨n - 1, by omega⟩
          rw [f_BargeBasinModel_ways_L35, if_neg (nI_ge (by omega) (by omega)), ev_grdN _ (show u < 6001 by omega) (by decide), ev_bnd, nI_1, nI_clamp (by omega)]
          refine ih (u + 1) n _ (by omega) (by omega) (fun v hv => ?_)
          by_cases e : v = u
          · subst e; exact pk_uLs
          · rw [pk_uLn e]; exact h3 v (by omega)
      obtain ⟨kw0, e2, w0⟩ := loop (FL B 7 P).length 0 jN kc (by omega) (by show _ < 2000000; omega) (fun v hv => by omega)
      have l0 : 0 < (FL B 7 P).length := z0
      obtain ⟨kc2, e3⟩ := m_wyL71 (but := but) (par := par) (mno := mno) h g1₉ g3.1 (fun b hb => (hr b hb).1) hg g3.2.1 tr y1 fz ht.2.1 er g5 al hbut (FL B 7 P).length 0 jN (updN (fun _ => 0) 0 1) 0 (cntS B but (dep z) P) (vp_updL kw0 0 1) (by omega) (by show _ < 2000000; omega) (by
        intro u hu
        by_cases e : u = 0
        · subst e; rw [pk_uLs, updN_s]; rfl
        · rw [pk_uLn e, updN_n e, w0 u hu]; rfl) (by
        rw [Nat.sub_zero, show (FL B 7 P).length = ((FL B 7 P).length - 1) + 1 by omega, List.range'_succ, sumQ_cons, updN_s, Nat.one_mul, sumQ_out (by rw [List.mem_range'_1]; omega)]
        have s0 : sumQ (fun _ => 0) (psi B but (FL B 7 P) dep (dep z)) (List.range' (0 + 1) ((FL B 7 P).length - 1)) = 0 := by
          unfold sumQ
          exact sum_zero (fun c _ => Nat.zero_mul _)
        rw [s0]
        unfold psi
        rw [tr.2.2.1, if_pos (Nat.zero_le _), gP]
        rfl)
      rw [nI_0] at e2 e3
      rw [show lN (capM 0) = 0 from rfl] at e3
      rw [show oI (some z) = nI z from rfl, if_pos (nI_pos' (by have : z < (FL B 7 P).length := y1; omega)), ev_grdN _ (show z < 6001 by have : z < (FL B 7 P).length := y1; omega) (by decide), ev_bnd, nI_clamp (show z < 2 ^ 31 by have : z < (FL B 7 P).length := y1; omega), dz.1, ev_b _ (show f_BargeBasinModel_ways_L35 (oI but) (nI (dep z)) (nI (FL B (if false = true then 1 else 7) P).length) jN 0 kc = _ from e2), ev_grd _ (show vp_in 0 6001 from vp_in_nI (n := 0) (by decide) (by decide)), ev_b _ (show f_BargeBasinModel_ways_L71 (oI but) (nI (dep z)) (nI (bn B)) (nI (FL B (if false = true then 1 else 7) P).length) kk kg b1 b4 b9 b10 b11 jN 0 0 (vp_updL kw0 (0 : Int32).toNatClampNeg 1) = _ from e3), un2_ap]
      exact ⟨_, _, _, _, _, _, _, _, _, _, _, _, _, _, _, _, _, rfl, Or.inr (Or.inr ⟨g1₉, dep z, t1, rfl⟩)⟩
end
section
/-! hardest of the reference: distances round by round. -/
theorem lvD_all {N : Nat} {edge : Nat → Nat → Prop} {D : Nat → Option Nat} (hb : ∀ u k, u < N → D u = some (k + 1) → ∃ a, a < N ∧ edge u a ∧ D a = some k) : ∀ d u, u < N → D u = some d → ∀ j, j ≤ d → ∃ a, a < N ∧ D a = some j
  | 0, u, hu, e, j, hj => ⟨u, hu, by rw [show j = 0 by omega]; exact e⟩
  | d + 1, u, hu, e, j, hj => by
    by_cases z : j = d + 1
    · exact ⟨u, hu, by rw [z]; exact e⟩
    · obtain ⟨a, h1, -, h3⟩ := hb u d hu e
      exact lvD_all hb d a h1 h3 j (by omega)
theorem lvD_lt {N : Nat} {edge : Nat → Nat → Prop} {D : Nat → Option Nat} (hb : ∀ u k, u < N → D u = some (k + 1) → ∃ a, a < N ∧ edge u a ∧ D a = some k) {d u : Nat} (hu : u < N) (e : D u = some d) : d < N := by
  have ex := lvD_all hb d u hu e
  have cl : ∃ f : Nat → Nat, ∀ j, j ≤ d → f j < N ∧ D (f j) = some j := by
    refine ⟨fun j => @dite _ (j ≤ d) (Classical.propDecidable _) (fun h => Classical.choose (ex j h)) (fun _ => 0), fun j hj => ?_⟩
    have : (@dite _ (j ≤ d) (Classical.propDecidable _) (fun h => Classical.choose (ex j h)) (fun _ => 0)) = Classical.choose (ex j hj) := dif_pos hj
    simp only [this]
    exact Classical.choose_spec (ex j hj)
  obtain ⟨f, hf⟩ := cl
  have := pigeon N (d + 1) f (fun s hs => (hf s (by omega)).1) (by
    intro s t hs ht e
    have a1 := (hf s (by omega)).2
    have a2 := (hf t (by omega)).2
    rw [e, a2] at a1
    exact (Option.some.inj a1).symm)
  omega
/-- the state as round d begins -/
def rdI (N : Nat) (edge : Nat → Nat → Prop) (fr : Nat → Bool) (D : Nat → Option Nat) (d : Nat) : Prop :=
  (∀ u k, u < N → D u = some k → k < d) ∧ (∀ u, u < N → (D u = some 0 ↔ fr u = true)) ∧ (∀ u k, u < N → D u = some (k + 1) → ∃ a, a < N ∧ edge u a ∧ D a = some k) ∧ (∀ u a k, u < N → a < N → k + 1 < d → edge u a → D a = some k → ∃ k₉, k₉ ≤ k + 1 ∧ D u = some k₉)
def exR (N : Nat) (edge : Nat → Nat → Prop) (D : Nat → Option Nat) (d u : Nat) : Prop := ∃ a, a < N ∧ edge u a ∧ D a = some (d - 1)
noncomputable def rnd (N : Nat) (edge : Nat → Nat → Prop) (D : Nat → Option Nat) (d u : Nat) : Nat → Option Nat := fun v => @ite _ (v < u ∧ D v = none ∧ exR N edge D d v) (Classical.propDecidable _) (some d) (D v)
theorem rnd_n {N : Nat} {edge : Nat → Nat → Prop} {D : Nat → Option Nat} {d u v k : Nat} (h : D v = some k) : rnd N edge D d u v = some k := by
  unfold rnd
  rw [if_neg (fun z => by rw [h] at z; cases z.2.1), h]
theorem rnd_lt {N : Nat} {edge : Nat → Nat → Prop} {D : Nat → Option Nat} {d u v k : Nat} (hk : k ≠ d) : rnd N edge D d u v = some k ↔ D v = some k := by
  unfold rnd
  by_cases c : v < u ∧ D v = none ∧ exR N edge D d v
  · rw [if_pos c]
    constructor
    · intro e; exact absurd (Option.some.inj e).symm hk
    · intro e; rw [e] at c; cases c.2.1
  · rw [if_neg c]
theorem rd_next {N : Nat} {edge : Nat → Nat → Prop} {fr : Nat → Bool} {D : Nat → Option Nat} {d : Nat} (hd : 1 ≤ d) (h : rdI N edge fr D d) : rdI N edge fr (rnd N edge D d N) (d + 1) := by
  obtain ⟨h1, h2, h3, h4⟩ := h
  refine ⟨?_, ?_, ?_, ?_⟩
  · intro u k hu e
    by_cases z : k = d
    · omega
    · have := h1 u k hu ((rnd_lt z).mp e); omega
  · intro u hu
    rw [rnd_lt (by omega)]
    exact h2 u hu
  · intro u k hu e
    by_cases z : k + 1 = d
    · by_cases y : D u = some (k + 1)
      · have := h1 u _ hu y; omega
      · have c : u < N ∧ D u = none ∧ exR N edge D d u := by
          apply Classical.byContradiction
          intro c
          unfold rnd at e
          rw [if_neg c] at e
          exact y e
        obtain ⟨a, a1, a2, a3⟩ := c.2.2
        exact ⟨a, a1, a2, by rw [rnd_lt (by omega), a3, show d - 1 = k by omega]⟩
    · obtain ⟨a, a1, a2, a3⟩ := h3 u k hu ((rnd_lt z).mp e)
      exact ⟨a, a1, a2, rnd_n a3⟩
  · intro u a k hu ha hk he hda
    have hda₉ : D a = some k := (rnd_lt (by omega)).mp hda
    by_cases z : k + 1 < d
    · obtain ⟨k₉, q1, q2⟩ := h4 u a k hu ha z he hda₉
      exact ⟨k₉, q1, rnd_n q2⟩
    · cases e : D u with
      | some k₉ =>
        have := h1 u k₉ hu e
        exact ⟨k₉, by omega, rnd_n e⟩
      | none =>
        refine ⟨d, by omega, ?_⟩
        unfold rnd
        rw [if_pos ⟨hu, e, a, ha, he, by rw [hda₉, show k = d - 1 by omega]⟩]
theorem rd_end {N : Nat} {edge : Nat → Nat → Prop} {fr : Nat → Bool} {D : Nat → Option Nat} {d : Nat} (h : rdI N edge fr D (d + 1)) (hno : ∀ u, u < N → D u ≠ some d) : distOk N edge fr D := by
  obtain ⟨h1, h2, h3, h4⟩ := h
  refine ⟨h2, h3, ?_⟩
  intro u a k hu ha he hda
  have := h1 a k ha hda
  have : k ≠ d := fun z => hno a ha (by rw [← z]; exact hda)
  exact h4 u a k hu ha (by omega) he hda
theorem m_hdL123 {B : Bas} {F : List (Nat → Nat)} {D : Nat → Option Nat} {d u : Nat} {v2 : Int32} {kf kfe ked keb : Nat → Int32} (hn : F.Nodup) (hl : F.length ≤ 6000) (he : eR F (prA B 7 F F.length) ked keb) (hfe : ∀ s, s ≤ F.length → kfe s = nI (prA B 7 F s).length) (hal : (prA B 7 F F.length).length ≤ 1010000) (hu : u < F.length) (hf : dR F.length kf D) (hd1 : 1 ≤ d) (hd : d < 2 ^ 30) (hD : ∀ v k, v < F.length → D v = some k → k < 2 ^ 30) :
    ∀ (r j n : Nat) (t : Bool), j + r = (mvs B (gt F u) 7 false).length → r + 1 < n → ∃ t₉ : Bool, f_BargeBasinModel_hardest_L123 v2 (nI d) (nI u) kf kfe ked n (bI t) (nI ((prA B 7 F u).length + j)) = some (bI t₉) ∧ (t₉ = true ↔ t = true ∨ ∃ i, ∃ hi : i < (mvs B (gt F u) 7 false).length, j ≤ i ∧ ∃ a, a < F.length ∧ gt F a = tgt (gt F u) (mvs B (gt F u) 7 false)[i] ∧ D a = some (d - 1)) := by
  have plen : (prA B 7 F (u + 1)).length = (prA B 7 F u).length + (mvs B (gt F u) 7 false).length := by rw [prA_s, List.length_append, prs_len]
  have ple : (prA B 7 F (u + 1)).length ≤ (prA B 7 F F.length).length := by
    obtain ⟨r, e⟩ := prA_pre (B := B) (most := 7) (L := F) (u := u + 1) (F.length - (u + 1))
    rw [show u + 1 + (F.length - (u + 1)) = F.length by omega] at e
    rw [e, List.length_append]; omega
  have one : ∀ n x, f_BargeBasinModel_hardest_L123 v2 (nI d) (nI u) kf kfe ked (n + 1) (bI true) x = some (bI true) := by
    intro n x
    rw [f_BargeBasinModel_hardest_L123, nI_1, ev_grdN _ (show u + 1 < 6002 by omega) (by decide), if_neg (show ¬ bI true = 0 by decide)]
    split <;> rfl
  intro r
  induction r with
  | zero =>
    intro j n t h1 h2
    obtain ⟨n, rfl⟩ : ∃ y, n = y + 1 := ⟨n - 1, by omega⟩
    refine ⟨t, ?_, fun y => Or.inl y, fun y => y.elim id (fun ⟨i, hi, q, _⟩ => by omega)⟩
    rw [f_BargeBasinModel_hardest_L123, nI_1, ev_grdN _ (show u + 1 < 6002 by omega) (by decide), nI_clamp (show u + 1 < 2 ^ 31 by omega), hfe (u + 1) (by omega), if_pos (nI_le (by omega) (by omega))]
  | succ r ih =>
    intro j n t h1 h2
    obtain ⟨n, rfl⟩ : ∃ y, n = y + 1 := ⟨n - 1, by omega⟩
    cases t with
    | true => exact ⟨true, one n _, fun _ => Or.inl rfl, fun _ => rfl⟩
    | false =>
      have hj : j < (mvs B (gt F u) 7 false).length := by omega
      obtain ⟨l1, l2⟩ := prA_at (B := B) (most := 7) (L := F) hu hj
      obtain ⟨a, a1, a2, a3, a4⟩ := he _ l1
      rw [l2] at a3
      simp only at a3
      have ce : (oI (D a) = nI (d - 1)) = (D a = some (d - 1)) := oI_eq (by omega) (fun c hc => by have := hD a c a1 hc; omega)
      have dm : nI d - 1 = nI (d - 1) := pk_sub (a := d) (b := 1) hd1
      rw [f_BargeBasinModel_hardest_L123, nI_1, ev_grdN _ (show u + 1 < 6002 by omega) (by decide), nI_clamp (show u + 1 < 2 ^ 31 by omega), hfe (u + 1) (by omega), if_neg (nI_ge (by omega) (by omega)), if_pos (show bI false = 0 by decide), ev_grdN _ (show (prA B 7 F u).length + j < 1010000 by omega) (by decide), nI_clamp (show (prA B 7 F u).length + j < 2 ^ 31 by omega), a2, ev_grdN _ (show a < 6001 by omega) (by decide), nI_clamp (show a < 2 ^ 31 by omega), hf a a1, dm]
      simp only [ce]
      by_cases c : D a = some (d - 1)
      · obtain ⟨m, rfl⟩ : ∃ y, n = y + 1 := ⟨n - 1, by omega⟩
        refine ⟨true, by rw [if_pos c, ev_bnd]; exact one m _, fun _ => Or.inr ⟨j, hj, Nat.le_refl _, a, a1, a3, c⟩, fun _ => rfl⟩
      · obtain ⟨t₉, q1, q2⟩ := ih (j + 1) n false (by omega) (by omega)
        refine ⟨t₉, by rw [if_neg c, ev_bnd, nI_1]; exact q1, ?_⟩
        rw [q2]
        constructor
        · rintro (y | ⟨i, hi, y1, y2⟩)
          · exact Or.inl y
          · exact Or.inr ⟨i, hi, by omega, y2⟩
        · rintro (y | ⟨i, hi, y1, b, b1, b2, b3⟩)
          · exact Or.inl y
          · by_cases e : i = j
            · subst e
              have : b = a := gt_inj hn b1 a1 (by rw [b2, a3])
              rw [this] at b3
              exact absurd b3 c
            · exact Or.inr ⟨i, hi, by omega, b, b1, b2, b3⟩
theorem ex_iff {B : Bas} {F : List (Nat → Nat)} {D : Nat → Option Nat} {d u : Nat} (hu : u < F.length) : exR F.length (edL B F 7) D d u ↔ ∃ i, ∃ hi : i < (mvs B (gt F u) 7 false).length, 0 ≤ i ∧ ∃ a, a < F.length ∧ gt F a = tgt (gt F u) (mvs B (gt F u) 7 false)[i] ∧ D a = some (d - 1) := by
  constructor
  · rintro ⟨a, a1, ⟨h1, h2, c, h3, h4⟩, a3⟩
    rw [← gt_at hu] at h3 h4
    obtain ⟨i, hi, ei⟩ := List.getElem_of_mem h3
    exact ⟨i, hi, Nat.zero_le _, a, a1, by rw [ei, h4, gt_at a1], a3⟩
  · rintro ⟨i, hi, -, a, a1, a2, a3⟩
    refine ⟨a, a1, ⟨hu, a1, (mvs B (gt F u) 7 false)[i], ?_, ?_⟩, a3⟩
    · rw [← gt_at hu]; exact List.getElem_mem hi
    · rw [← gt_at hu, ← gt_at a1, a2]
theorem m_hdL89 {B : Bas} {F : List (Nat → Nat)} {D : Nat → Option Nat} {d : Nat} {kfe ked keb : Nat → Int32} (h : basOk B) (hst : ∀ P, P ∈ F → stC B P) (hn : F.Nodup) (hl : F.length ≤ 6000) (he : eR F (prA B 7 F F.length) ked keb) (hfe : ∀ s, s ≤ F.length → kfe s = nI (prA B 7 F s).length) (hal : (prA B 7 F F.length).length ≤ 1010000) (hd1 : 1 ≤ d) (hd : d < 2 ^ 30) (hD : ∀ v k, v < F.length → D v = some k → k < d) :
    ∀ (r u n : Nat) (more : Bool) (kf : Nat → Int32), u + r = F.length → r < n → dR F.length kf (rnd F.length (edL B F 7) D d u) → (more = true ↔ ∃ v, v < u ∧ D v = none ∧ exR F.length (edL B F 7) D d v) →
      ∃ (more₉ : Bool) (kf₉ : Nat → Int32), f_BargeBasinModel_hardest_L89 (nI d) (nI F.length) kfe ked n (bI more) (nI u) kf = some (bI more₉, kf₉) ∧ dR F.length kf₉ (rnd F.length (edL B F 7) D d F.length) ∧ (more₉ = true ↔ ∃ v, v < F.length ∧ D v = none ∧ exR F.length (edL B F 7) D d v) := by
  intro r
  induction r with
  | zero =>
    intro u n more kf h1 h2 h3 h4
    obtain ⟨n, rfl⟩ : ∃ y, n = y + 1 := ⟨n - 1, by omega⟩
    have e : u = F.length := by omega
    subst e
    exact ⟨more, kf, by rw [f_BargeBasinModel_hardest_L89, if_pos (nI_le (Nat.le_refl _) (by omega))], h3, h4⟩
  | succ r ih =>
    intro u n more kf h1 h2 h3 h4
    obtain ⟨n, rfl⟩ : ∃ y, n = y + 1 := ⟨n - 1, by omega⟩
    have hu : u < F.length := by omega
    have at_u : rnd F.length (edL B F 7) D d u u = D u := by
      unfold rnd
      rw [if_neg (fun z => by have := z.1; omega)]
    have other : ∀ v, v ≠ u → rnd F.length (edL B F 7) D d (u + 1) v = rnd F.length (edL B F 7) D d u v := by
      intro v hv
      unfold rnd
      by_cases c : v < u ∧ D v = none ∧ exR F.length (edL B F 7) D d v
      · rw [if_pos c, if_pos ⟨by have := c.1; omega, c.2⟩]
      · rw [if_neg c, if_neg (fun z => c ⟨by have := z.1; omega, z.2⟩)]
    have mv := mvs_168 (most := 7) (bk := false) h (hst _ (gt_mem hu)).1
    rw [f_BargeBasinModel_hardest_L89, if_neg (nI_ge hu (by omega)), ev_grdN _ (show u < 6001 by omega) (by decide), nI_clamp (show u < 2 ^ 31 by omega), h3 u hu, at_u]
    cases eu : D u with
    | some k =>
      rw [if_neg (show ¬ oI (some k) < 0 from nI_pos (by have := hD u k hu eu; omega)), ev_bnd, nI_1]
      refine ih (u + 1) n more kf (by omega) (by omega) (fun v hv => ?_) ?_
      · by_cases z : v = u
        · subst z
          rw [h3 v hv, at_u, eu, rnd_n eu]
        · rw [h3 v hv, other v z]
      · rw [h4]
        constructor
        · rintro ⟨v, y1, y2⟩; exact ⟨v, by omega, y2⟩
        · rintro ⟨v, y1, y2, y3⟩
          have : v ≠ u := fun z => by rw [z, eu] at y2; cases y2
          exact ⟨v, by omega, y2, y3⟩
    | none =>
      have Dl : ∀ v k, v < F.length → rnd F.length (edL B F 7) D d u v = some k → k < 2 ^ 30 := by
        intro v k hv e
        by_cases z : k = d
        · omega
        · have := hD v k hv ((rnd_lt z).mp e); omega
      obtain ⟨t, q1, q2⟩ := m_hdL123 (v2 := bI more) (d := d) hn hl he hfe hal hu h3 hd1 hd Dl (mvs B (gt F u) 7 false).length 0 jN false (by omega) (by show _ < 2000000; omega)
      have q3 : t = true ↔ exR F.length (edL B F 7) D d u := by
        rw [ex_iff hu, q2]
        simp only [rnd_lt (show d - 1 ≠ d by omega)]
        exact ⟨fun y => y.elim (fun z => by (cases z)) id, Or.inr⟩
      rw [Nat.add_zero, show bI false = (0 : Int32) from rfl] at q1
      rw [if_pos (show oI none < 0 by decide), ev_grdN _ (show u < 6002 by omega) (by decide), ev_bnd, hfe u (by omega), ev_b _ q1]
      have J : f_BargeBasinModel_hardest_J173 (f_BargeBasinModel_hardest_L89 (nI d) (nI F.length) kfe ked n) (bI more) (nI d) (nI u) (bI t) kf = f_BargeBasinModel_hardest_L89 (nI d) (nI F.length) kfe ked n (bI (more || t)) (nI (u + 1)) (if t = true then upd kf u (nI d) else kf) := by
        unfold f_BargeBasinModel_hardest_J173
        simp only [ev_bnd, nI_1, ev_grdN _ (show u < 6001 by omega) (show 6001 < 2 ^ 31 by decide), nI_clamp (show u < 2 ^ 31 by omega)]
        cases t <;> cases more <;> rfl
      rw [J]
      refine ih (u + 1) n (more || t) _ (by omega) (by omega) (fun v hv => ?_) ?_
      · by_cases z : v = u
        · subst z
          cases ht : t with
          | true =>
            rw [if_pos rfl, pk_us]
            unfold rnd
            rw [if_pos ⟨by omega, eu, q3.mp ht⟩]; rfl
          | false =>
            rw [if_neg (by decide), h3 v hv, at_u]
            unfold rnd
            rw [if_neg (fun y => by have := q3.mpr y.2.2; rw [ht] at this; cases this)]
        · have : (if t = true then upd kf u (nI d) else kf) v = kf v := by
            cases t
            · rfl
            · exact pk_un z
          rw [this, h3 v hv, other v z]
      · rw [Bool.or_eq_true, h4, q3]
        constructor
        · rintro (⟨v, y1, y2⟩ | y)
          · exact ⟨v, by omega, y2⟩
          · exact ⟨u, by omega, eu, y⟩
        · rintro ⟨v, y1, y2, y3⟩
          by_cases z : v = u
          · subst z; exact Or.inr y3
          · exact Or.inl ⟨v, by omega, y2, y3⟩
theorem m_hdL80 {B : Bas} {F : List (Nat → Nat)} {kfe ked keb : Nat → Int32} (h : basOk B) (hst : ∀ P, P ∈ F → stC B P) (hn : F.Nodup) (hl : F.length ≤ 6000) (he : eR F (prA B 7 F F.length) ked keb) (hfe : ∀ s, s ≤ F.length → kfe s = nI (prA B 7 F s).length) (hal : (prA B 7 F F.length).length ≤ 1010000) :
    ∀ (r d n : Nat) (more : Bool) (D : Nat → Option Nat) (kf : Nat → Int32), d + r = F.length + 2 → r < n → 1 ≤ d → rdI F.length (edL B F 7) (frL B F) D d → dR F.length kf D → (more = true → 2 ≤ d → ∃ u, u < F.length ∧ D u = some (d - 1)) → (more = false → 2 ≤ d ∧ ∀ u, u < F.length → D u ≠ some (d - 1)) →
      ∃ D₉ kf₉, f_BargeBasinModel_hardest_L80 (nI F.length) kfe ked n (bI more) (nI d) kf = some kf₉ ∧ distOk F.length (edL B F 7) (frL B F) D₉ ∧ dR F.length kf₉ D₉ := by
  intro r
  induction r with
  | zero =>
    intro d n more D kf h1 h2 h3 h4 h5 h6 h7
    obtain ⟨n, rfl⟩ : ∃ y, n = y + 1 := ⟨n - 1, by omega⟩
    cases more with
    | true =>
      obtain ⟨u, hu, eu⟩ := h6 rfl (by omega)
      have := lvD_lt h4.2.2.1 hu eu
      omega
    | false =>
      obtain ⟨d₉, rfl⟩ : ∃ y, d = y + 1 := ⟨d - 1, by omega⟩
      exact ⟨D, kf, by rw [f_BargeBasinModel_hardest_L80, if_pos (show bI false = 0 by decide)], rd_end h4 (h7 rfl).2, h5⟩
  | succ r ih =>
    intro d n more D kf h1 h2 h3 h4 h5 h6 h7
    obtain ⟨n, rfl⟩ : ∃ y, n = y + 1 := ⟨n - 1, by omega⟩
    cases more with
    | false =>
      obtain ⟨d₉, rfl⟩ : ∃ y, d = y + 1 := ⟨d - 1, by omega⟩
      exact ⟨D, kf, by rw [f_BargeBasinModel_hardest_L80, if_pos (show bI false = 0 by decide)], rd_end h4 (h7 rfl).2, h5⟩
    | true =>
      have r0 : rnd F.length (edL B F 7) D d 0 = D := by
        funext v
        unfold rnd
        rw [if_neg (fun z => by have := z.1; omega)]
      obtain ⟨more1, kf1, e1, q1, q2⟩ := m_hdL89 (D := D) (d := d) h hst hn hl he hfe hal h3 (by omega) h4.1 F.length 0 jN false kf (by omega) (by show _ < 2000000; omega) (by rw [r0]; exact h5) ⟨fun z => by (cases z), fun ⟨v, y, _⟩ => by omega⟩
      rw [nI_0, show bI false = (0 : Int32) from rfl] at e1
      rw [f_BargeBasinModel_hardest_L80, if_neg (show ¬ bI true = 0 by decide), ev_b _ e1, un2_ap, ev_bnd, nI_1]
      refine ih (d + 1) n more1 (rnd F.length (edL B F 7) D d F.length) kf1 (by omega) (by omega) (by omega) (rd_next h3 h4) q1 ?_ ?_
      · intro z _
        obtain ⟨v, y1, y2, y3⟩ := q2.mp z
        refine ⟨v, y1, ?_⟩
        unfold rnd
        rw [if_pos ⟨y1, y2, y3⟩, Nat.add_sub_cancel]
      · intro z
        refine ⟨by omega, fun u hu e => ?_⟩
        rw [Nat.add_sub_cancel] at e
        unfold rnd at e
        by_cases c : u < F.length ∧ D u = none ∧ exR F.length (edL B F 7) D d u
        · have := q2.mpr ⟨u, c⟩
          rw [z] at this; cases this
        · rw [if_neg c] at e
          have := h4.1 u d hu e
          omega
end
section
theorem m_hdL15 {B : Bas} {F : List (Nat → Nat)} {kk kg kpl : Nat → Int32} (h : basOk B) (hk : ∀ b, b < bn B → kk b = nI (bK B b)) (hg : chG B kg) (hp : rP B F kpl) (hl : F.length ≤ 6000) (hst : ∀ P, P ∈ F → stC B P) :
    ∀ (r u n m : Nat) (kf : Nat → Int32), u + r = F.length → r < n → (∀ v, v < u → kf v = oI (if frL B F v then some 0 else none)) → m ≤ u → (m = u ↔ ∀ v, v < u → frL B F v = false) →
      ∃ (m₉ : Nat) (kf₉ : Nat → Int32), f_BargeBasinModel_hardest_L15 (nI (bn B)) (nI F.length) kk kg kpl n (nI m) (nI u) kf = some (nI m₉, kf₉) ∧ (∀ v, v < F.length → kf₉ v = oI (if frL B F v then some 0 else none)) ∧ m₉ ≤ F.length ∧ (m₉ = F.length ↔ ∀ v, v < F.length → frL B F v = false) := by
  intro r
  induction r with
  | zero =>
    intro u n m kf h1 h2 h3 h4 h5
    obtain ⟨n, rfl⟩ : ∃ y, n = y + 1 := ⟨n - 1, by omega⟩
    have e : u = F.length := by omega
    subst e
    exact ⟨m, kf, by rw [f_BargeBasinModel_hardest_L15, if_pos (nI_le (Nat.le_refl _) (by omega))], h3, h4, h5⟩
  | succ r ih =>
    intro u n m kf h1 h2 h3 h4 h5
    obtain ⟨n, rfl⟩ : ∃ y, n = y + 1 := ⟨n - 1, by omega⟩
    have hu : u < F.length := by omega
    have fr := m_isFreedStand h hk hg hp hu (by omega) (hst _ (gt_mem hu))
    have fe : freedA B (gt F u) = frL B F u := by rw [frL_at hu, gt_at hu]
    rw [fe] at fr
    rw [f_BargeBasinModel_hardest_L15, if_neg (nI_ge hu (by omega)), ev_b _ fr]
    unfold f_BargeBasinModel_hardest_J41
    rw [ev_grdN _ (show u < 6001 by omega) (by decide), ev_grdN _ (show u < 6001 by omega) (by decide), ev_grdN _ (show u < 6001 by omega) (by decide), ev_grdN _ (show u < 6001 by omega) (by decide), nI_clamp (show u < 2 ^ 31 by omega), pk_us, pk_us]
    cases ef : frL B F u with
    | false =>
      rw [if_pos (show bI false = 0 by decide), if_neg (show ¬ (0 : Int32) ≤ -1 by decide), ev_bnd, ev_bnd, nI_1, nI_1]
      refine ih (u + 1) n (m + 1) _ (by omega) (by omega) (fun v hv => ?_) (by omega) ?_
      · by_cases z : v = u
        · subst z; rw [pk_us, ef]; rfl
        · rw [pk_un z]; exact h3 v (by omega)
      · constructor
        · intro z v hv
          by_cases y : v = u
          · subst y; exact ef
          · exact h5.mp (by omega) v (by omega)
        · intro z
          have := h5.mpr (fun v hv => z v (by omega))
          omega
    | true =>
      rw [if_neg (show ¬ bI true = 0 by decide), if_pos (show (0 : Int32) ≤ 0 by decide), ev_bnd, ev_bnd, nI_1, show nI m + 0 = nI m from Int32.add_zero _]
      refine ih (u + 1) n m _ (by omega) (by omega) (fun v hv => ?_) (by omega) ?_
      · by_cases z : v = u
        · subst z; rw [pk_us, ef]; rfl
        · rw [pk_un z]; exact h3 v (by omega)
      · constructor
        · intro z; omega
        · intro z
          have := z u (by omega)
          rw [ef] at this; cases this
theorem bestO_none {D : Nat → Option Nat} : ∀ {u : Nat}, bestO D u = none ↔ ∀ v, v < u → D v = none
  | 0 => ⟨fun _ v hv => by omega, fun _ => rfl⟩
  | u + 1 => by
    have ih := bestO_none (D := D) (u := u)
    have bs : bestO D (u + 1) = (match D u, bestO D u with
        | none, b => b
        | some _, none => some u
        | some k, some b => if dvO D b < k then some u else some b) := rfl
    rw [bs]
    cases e : D u with
    | none =>
      show bestO D u = none ↔ _
      rw [ih]
      constructor
      · intro h v hv
        by_cases z : v = u
        · subst z; exact e
        · exact h v (by omega)
      · exact fun h v hv => h v (by omega)
    | some k =>
      constructor
      · intro h
        cases e2 : bestO D u with
        | none => rw [e2] at h; cases h
        | some b =>
          rw [e2] at h
          have h₉ : (if dvO D b < k then some u else some b) = none := h
          split at h₉ <;> cases h₉
      · intro h
        have := h u (by omega)
        rw [e] at this; cases this
theorem m_hdL218 {N : Nat} {D : Nat → Option Nat} {kf : Nat → Int32} (hN : N ≤ 6000) (h0 : 0 < N) (hf : dR N kf D) (hk : ∀ u k, u < N → D u = some k → k < 2 ^ 31) :
    ∀ (r u n : Nat), u + r = N → r < n → 1 ≤ u → f_BargeBasinModel_hardest_L218 (nI N) kf n (nI ((bestO D u).getD 0)) (nI u) = some (nI ((bestO D N).getD 0)) := by
  intro r
  induction r with
  | zero =>
    intro u n h1 h2 h3
    obtain ⟨n, rfl⟩ : ∃ y, n = y + 1 := ⟨n - 1, by omega⟩
    have e : u = N := by omega
    subst e
    rw [f_BargeBasinModel_hardest_L218, if_pos (nI_le (Nat.le_refl _) (by omega))]
  | succ r ih =>
    intro u n h1 h2 h3
    obtain ⟨n, rfl⟩ : ∃ y, n = y + 1 := ⟨n - 1, by omega⟩
    have hu : u < N := by omega
    have hb : (bestO D u).getD 0 < N := by
      cases e : bestO D u with
      | none => exact h0
      | some b => have := (bestO_lt e).1; show b < N; omega
    have nxt := ih (u + 1) n (by omega) (by omega) (by omega)
    have bs : bestO D (u + 1) = (match D u, bestO D u with
        | none, b => b
        | some _, none => some u
        | some k, some b => if dvO D b < k then some u else some b) := rfl
    rw [bs] at nxt
    rw [f_BargeBasinModel_hardest_L218, if_neg (nI_ge hu (by omega)), ev_grdN _ (show u < 6001 by omega) (by decide), ev_grdN _ (show (bestO D u).getD 0 < 6001 by omega) (by decide), nI_clamp (show u < 2 ^ 31 by omega), nI_clamp (show (bestO D u).getD 0 < 2 ^ 31 by omega), hf u hu, hf _ hb, ev_bnd, ev_bnd, nI_1]
    cases e : D u with
    | none =>
      rw [e] at nxt
      have le : oI none ≤ oI (D ((bestO D u).getD 0)) := by
        cases e2 : D ((bestO D u).getD 0) with
        | none => exact Int32.le_refl _
        | some k =>
          have := hk _ k hb e2
          show (-1 : Int32) ≤ nI k
          rw [Int32.le_iff_toInt_le, nI_toInt this]
          show (-1 : Int) ≤ _
          omega
      rw [if_pos le]
      exact nxt
    | some k =>
      have k31 := hk u k hu e
      cases e2 : bestO D u with
      | none =>
        rw [e, e2] at nxt
        have d0 : D 0 = none := bestO_none.mp e2 0 (by omega)
        have : ¬ oI (some k) ≤ oI (D ((none : Option Nat).getD 0)) := by
          show ¬ nI k ≤ oI (D 0)
          rw [d0]
          show ¬ nI k ≤ (-1 : Int32)
          rw [Int32.le_iff_toInt_le, nI_toInt k31]
          show ¬ (k : Int) ≤ -1
          omega
        rw [if_neg this]
        exact nxt
      | some b =>
        have l2 := bestO_lt e2
        have b31 := hk b _ (by omega) (some_dv l2.2)
        rw [e, e2] at nxt
        have g : (some b).getD 0 = b := rfl
        rw [g, some_dv l2.2]
        have cmp : (oI (some k) ≤ oI (some (dvO D b))) = (k ≤ dvO D b) := nI_leE k31 b31
        simp only [cmp]
        have nxt₉ : f_BargeBasinModel_hardest_L218 (nI N) kf n (nI ((if dvO D b < k then some u else some b).getD 0)) (nI (u + 1)) = some (nI ((bestO D N).getD 0)) := nxt
        by_cases c : dvO D b < k
        · rw [if_pos c] at nxt₉
          rw [if_neg (by omega)]
          exact nxt₉
        · rw [if_neg c] at nxt₉
          rw [if_pos (by omega)]
          exact nxt₉
/-- what a look for the hardest stand comes to -/
def hdX (B : Bas) (P : Nat → Nat) (s : Int32) (kf kpl : Nat → Int32) : Prop :=
  (6000 < (FL B 7 P).length ∧ s = -10) ∨ ((FL B 7 P).length ≤ 6000 ∧ (∀ v, v < (FL B 7 P).length → frL B (FL B 7 P) v = false) ∧ s = -11) ∨
  ((FL B 7 P).length ≤ 6000 ∧ ∃ D b, distOk (FL B 7 P).length (edL B (FL B 7 P) 7) (frL B (FL B 7 P)) D ∧ bestO D (FL B 7 P).length = some b ∧ s = nI b ∧ dR (FL B 7 P).length kf D ∧ rP B (FL B 7 P) kpl)
theorem m_hardest {B : Bas} {P : Nat → Nat} {kwl kk kat ks ky kg : Nat → Int32} (h : basOk B) (hP : stC B P) (hr : rfB B kk ks ky) (hwl : rfW B kwl) (hp : chP B P kat) (hg : chG B kg) (st0 ed0 : Int32) (kpl khd kch kdp kpr kbb kby kbs kf kfe ked keb kwho kh : Nat → Int32) :
    ∃ (s st ed : Int32) (kpl₉ khd₉ kch₉ kdp₉ kpr₉ kbb₉ kby₉ kbs₉ kf₉ kfe₉ ked₉ keb₉ kwho₉ kh₉ : Nat → Int32), f_BargeBasinModel_hardest (nI (bw B)) (nI (bh B)) (nI (bn B)) st0 ed0 kwl kk kat ks ky kg kpl khd kch kdp kpr kbb kby kbs kf kfe ked keb kwho kh = some (s, st, ed, kpl₉, khd₉, kch₉, kdp₉, kpr₉, kbb₉, kby₉, kbs₉, kf₉, kfe₉, ked₉, keb₉, kwho₉, kh₉) ∧ hdX B P s kf₉ kpl₉ := by
  obtain ⟨well, st, ed, b1, b2, b3, b4, b5, b6, b7, b8, b9, b10, b11, b12, b13, f1, f2, f3⟩ := m_looksAtAll (sg := false) h hP hr hwl hp rfl st0 ed0 kpl khd kch kdp kpr kbb kby kbs kfe ked keb kwho kh
  rw [show bI false = (0 : Int32) from rfl] at f1
  unfold f_BargeBasinModel_hardest
  rw [ev_b _ f1, un16_ap]
  cases well with
  | false =>
    rw [if_pos (show bI false = 0 by decide)]
    exact ⟨_, _, _, _, _, _, _, _, _, _, _, _, _, _, _, _, _, rfl, Or.inl ⟨f3 rfl, rfl⟩⟩
  | true =>
    obtain ⟨g1, g2, ⟨g3, g4⟩, g5⟩ := f2 rfl
    subst g2
    have g1₉ : (FL B 7 P).length ≤ 6000 := g1
    obtain ⟨-, er, -⟩ := id g4
    obtain ⟨z0, z1⟩ := FL_0 (B := B) (most := 7) (P := P)
    have al : (prA B 7 (FL B 7 P) (FL B 7 P).length).length ≤ 1010000 := by
      have := prA_len (B := B) (most := 7) (L := FL B 7 P) h g3.1 (Nat.le_refl _)
      omega
    obtain ⟨m, kf1, e1, q1, q2, q3⟩ := m_hdL15 (F := FL B 7 P) h (fun b hb => (hr b hb).1) hg g3.2.1 g1₉ g3.1 (FL B 7 P).length 0 jN 0 kf (by omega) (by show _ < 2000000; omega) (fun v hv => by omega) (Nat.le_refl _) ⟨fun _ v hv => by omega, fun _ => rfl⟩
    rw [nI_0] at e1
    have fl : FL B (if false = true then 1 else 7) P = FL B 7 P := rfl
    rw [fl]
    rw [if_neg (show ¬ bI true = 0 by decide), ev_b _ e1, un2_ap]
    have ce : (nI m = nI (FL B 7 P).length) = (m = (FL B 7 P).length) := nI_eqL (by omega) (by omega)
    simp only [ce]
    by_cases c : m = (FL B 7 P).length
    · rw [if_pos c]
      exact ⟨_, _, _, _, _, _, _, _, _, _, _, _, _, _, _, _, _, rfl, Or.inr (Or.inl ⟨g1₉, q3.mp c, rfl⟩)⟩
    · have st1 : rdI (FL B 7 P).length (edL B (FL B 7 P) 7) (frL B (FL B 7 P)) (fun v => if frL B (FL B 7 P) v then some 0 else none) 1 := by
        refine ⟨?_, ?_, ?_, ?_⟩
        · intro u k hu e
          cases ef : frL B (FL B 7 P) u
          · simp only [ef] at e; cases e
          · simp only [ef] at e
            have : 0 = k := Option.some.inj e
            omega
        · intro u hu
          cases ef : frL B (FL B 7 P) u
          · simp [ef]
          · simp [ef]
        · intro u k hu e
          cases ef : frL B (FL B 7 P) u
          · simp only [ef] at e; cases e
          · simp only [ef] at e
            have : 0 = k + 1 := Option.some.inj e
            omega
        · intro u a k hu ha hk; omega
      obtain ⟨D, kf2, e2, dd, df⟩ := m_hdL80 (F := FL B 7 P) h g3.1 FL_nd g1₉ er g5 al ((FL B 7 P).length + 1) 1 jN true _ kf1 (by omega) (by show _ < 2000000; omega) (Nat.le_refl _) st1 q1 (fun _ y => by omega) (fun y => by cases y)
      have hb : ∃ b, bestO D (FL B 7 P).length = some b := by
        cases e : bestO D (FL B 7 P).length with
        | some b => exact ⟨b, rfl⟩
        | none =>
          exfalso
          apply c
          rw [q3]
          intro v hv
          rw [← Bool.not_eq_true]
          intro y
          have := (dd.1 v hv).mpr y
          rw [bestO_none.mp e v hv] at this
          cases this
      obtain ⟨b, eb⟩ := hb
      have hk : ∀ u k, u < (FL B 7 P).length → D u = some k → k < 2 ^ 31 := by
        intro u k hu e
        have := lvD_lt dd.2.1 hu e
        omega
      have b1₉ : (bestO D 1).getD 0 = 0 := by
        cases e : bestO D 1 with
        | none => rfl
        | some x => have := (bestO_lt e).1; show x = 0; omega
      have e3 := m_hdL218 g1₉ z0 df hk ((FL B 7 P).length - 1) 1 jN (by omega) (by show _ < 2000000; omega) (Nat.le_refl _)
      rw [b1₉, eb, nI_0] at e3
      rw [if_neg c, ev_b _ (show f_BargeBasinModel_hardest_L80 (nI (FL B 7 P).length) b9 b10 jN 1 1 kf1 = _ from e2), ev_b _ (show f_BargeBasinModel_hardest_L218 (nI (FL B 7 P).length) kf2 jN 0 1 = _ from e3)]
      exact ⟨_, _, _, _, _, _, _, _, _, _, _, _, _, _, _, _, _, rfl, Or.inr (Or.inr ⟨g1₉, D, b, dd, eb, rfl, df, g3.2.1⟩)⟩
end
section
/-! explore, and faultOfSearch, of the class. -/
def chX (B : Bas) (P : Nat → Nat) (kw kh kn : Int32) (kwl kt : Int64) (kk kp kl kg ka kwd khg : Nat → Int32) (ks : Nat → Int64) : Prop :=
  kw = nI (bw B) ∧ kh = nI (bh B) ∧ kn = nI (bn B) ∧ chW B kwl ∧ chT B P kt ∧ chB B kk ka kwd khg ks ∧ chP B P kp ∧ (∀ b, b < bn B → kl b = nI (bS B b)) ∧ chG B kg
theorem chB_cg {B : Bas} {kk ka kw kh kk2 ka2 kw2 kh2 : Nat → Int32} {ks ks2 : Nat → Int64} (h : chB B kk ka kw kh ks) (e : ∀ b, b < bn B → kk2 b = kk b ∧ ka2 b = ka b ∧ kw2 b = kw b ∧ kh2 b = kh b ∧ ks2 b = ks b) : chB B kk2 ka2 kw2 kh2 ks2 := by
  intro b hb
  obtain ⟨e1, e2, e3, e4, e5⟩ := e b hb
  rw [e1, e2, e3, e4, e5]
  exact h b hb
theorem s_explore {B : Bas} {P : Nat → Nat} {cw chh cn : Int32} {cwl ct : Int64} {ck cp cl cg ca cwd chg : Nat → Int32} {cs : Nat → Int64} (h : basOk B) (hP : stC B P) (hc : chX B P cw chh cn cwl ct ck cp cl cg ca cwd chg cs) {found : Int32} {slots for1 : Nat → Int32} (hs : schI found slots for1) (sp w0 h0 n0 : Int32) (wl0 t0 : Int64) (k0 p0 l0 g0 a0 wd0 hg0 : Nat → Int32) (s0 low high : Nat → Int64) (mv : Nat → Int32) :
    ∃ (f₉ sp₉ : Int32) (t₉ : Int64) (k₉ p₉ l₉ g₉ a₉ wd₉ hg₉ : Nat → Int32) (s₉ lo₉ hi₉ : Nat → Int64) (sl₉ fo₉ mv₉ : Nat → Int32), f_Search_explore found sp w0 h0 n0 wl0 t0 k0 p0 l0 g0 a0 wd0 hg0 s0 low high slots for1 mv cw chh cn cwl ct ck cp cl cg ca cwd chg cs = some (bI (decide ((FL B 7 P).length ≤ 6000)), f₉, sp₉, nI (bw B), nI (bh B), nI (bn B), cwl, t₉, k₉, p₉, l₉, g₉, a₉, wd₉, hg₉, s₉, lo₉, hi₉, sl₉, fo₉, mv₉) ∧
      chB B k₉ a₉ wd₉ hg₉ s₉ ∧ chG B g₉ ∧ exS B (FL B 7 P) f₉ sp₉ lo₉ hi₉ sl₉ fo₉ := by
  obtain ⟨c1, c2, c3, c4, c5, c6, c7, c8, c9⟩ := hc
  subst c1; subst c2; subst c3
  obtain ⟨sl1, e1, z1⟩ := s_clear (ksp := sp) hs
  obtain ⟨k1, p1, l1, g1, a1, wd1, hg1, s1, e2, q2⟩ := s_copyFrom (n := bn B) (b2 := nI (bw B)) (d2 := nI (bh B)) (c2 := nI (bn B)) (w2 := cwl) (t2 := ct) (k2 := ck) (p2 := cp) (l2 := cl) (g2 := cg) (a2 := ca) (wd2 := cwd) (hg2 := chg) (s2 := cs) h.2.2.2.2.1 (fun b hb => by rw [(c6 b hb).2.1]; exact nar_bI _) w0 h0 n0 wl0 t0 k0 p0 l0 g0 a0 wd0 hg0 s0 rfl
  have cb : chB B k1 a1 wd1 hg1 s1 := chB_cg c6 (fun b hb => by obtain ⟨y1, y2, y3, y4, y5, y6, y7, y8⟩ := q2 b hb; exact ⟨y1, y5, y6, y7, y8⟩)
  have cp1 : chP B P p1 := fun b hb => by rw [(q2 b hb).2.1]; exact c7 b hb
  have cg1 : chG B g1 := fun b hb h5 => by rw [(q2 b hb).2.2.2.1]; exact c9 b hb h5
  obtain ⟨f2, sp2, a2, b2, d2, o2, e3, x3⟩ := s_meetStart (klow := low) (khigh := high) (kfor := for1) h hP cp1 z1
  obtain ⟨f, s, t, p, a, b, c, d, m, e4, x4⟩ := s_exL18 (v0 := P) h cb c4 6000 0 jN f2 sp2 ct p1 a2 b2 d2 o2 mv (by omega) (by decide) x3
  have x5 : exS B (FL B 7 P) f s a b c d := x4
  refine ⟨f, s, t, k1, p, l1, g1, a1, wd1, hg1, s1, a, b, c, d, m, ?_, cb, cg1, x5⟩
  unfold f_Search_explore
  rw [nI_0] at e4
  rw [ev_b _ e1, un3_ap, ev_b _ e2, un13_ap, ev_b _ e3, un6_ap, ev_b _ e4, un9_ap]
  rcases x5 with ⟨y1, -, y3⟩ | ⟨y1, y2, -⟩
  · rw [if_pos y1, decide_eq_true y3.1]; rfl
  · rw [if_neg (by rw [y1]; decide), decide_eq_false (by omega)]; rfl
theorem noBas {B : Bas} (h : basOk B) : f_BargeBasin_hasNoBasin (nI (bw B)) = some 0 := by
  unfold f_BargeBasin_hasNoBasin
  have := h.1
  have := h.2.1
  rw [if_neg]
  exact nI_ne0 (by omega) (by omega)
/-- what the search holds where it didn't spend itself -/
def srX (B : Bas) (P : Nat → Nat) (most : Nat) (D : Nat → Option Nat) (f w hh n : Int32) (wl : Int64) (k g a wd hg : Nat → Int32) (s lo hi : Nat → Int64) (sl fo dist : Nat → Int32) : Prop :=
  (FL B 7 P).length ≤ 6000 ∧ distOk (FL B 7 P).length (edL B (FL B 7 P) most) (frL B (FL B 7 P)) D ∧ dR (FL B 7 P).length dist D ∧ (∀ u k, u < (FL B 7 P).length → D u = some k → k < (FL B 7 P).length) ∧ f = nI (FL B 7 P).length ∧ tab B (FL B 7 P) lo hi sl fo ∧ w = nI (bw B) ∧ hh = nI (bh B) ∧ n = nI (bn B) ∧ chW B wl ∧ chB B k a wd hg s ∧ chG B g
theorem s_fault11 {B : Bas} {P : Nat → Nat} {sg all : Bool} {most : Nat} {cw chh cn : Int32} {cwl ct : Int64} {ck cp cl cg ca cwd chg : Nat → Int32} {cs : Nat → Int64} (h : basOk B) (hP : stC B P) (hc : chX B P cw chh cn cwl ct ck cp cl cg ca cwd chg cs) (hmost : most = if sg then 1 else 7) {found : Int32} {slots for1 : Nat → Int32} (hs : schI found slots for1) (qd sp w0 h0 n0 : Int32) (wl0 t0 : Int64) (k0 p0 l0 g0 a0 wd0 hg0 : Nat → Int32) (s0 low high : Nat → Int64) (mv di qu : Nat → Int32) :
    ∃ (r f₉ qd₉ sp₉ w₉ h₉ n₉ : Int32) (wl₉ t₉ : Int64) (k₉ p₉ l₉ g₉ a₉ wd₉ hg₉ : Nat → Int32) (s₉ lo₉ hi₉ : Nat → Int64) (sl₉ fo₉ mv₉ di₉ qu₉ : Nat → Int32), f_BargeBasin_faultOfSearch_search11 (bI sg) (bI all) cw chh cn cwl ct ck cp cl cg ca cwd chg cs found qd sp w0 h0 n0 wl0 t0 k0 p0 l0 g0 a0 wd0 hg0 s0 low high slots for1 mv di qu = some (r, f₉, qd₉, sp₉, w₉, h₉, n₉, wl₉, t₉, k₉, p₉, l₉, g₉, a₉, wd₉, hg₉, s₉, lo₉, hi₉, sl₉, fo₉, mv₉, di₉, qu₉) ∧ schI f₉ sl₉ fo₉ ∧
      ((6000 < (FL B 7 P).length ∧ r = 10) ∨ ∃ D, srX B P most D f₉ w₉ h₉ n₉ wl₉ k₉ g₉ a₉ wd₉ hg₉ s₉ lo₉ hi₉ sl₉ fo₉ di₉ ∧ r = (if (if all then bestO D (FL B 7 P).length else D 0) = none then 11 else 0)) := by
  obtain ⟨f1, sp1, t1, k1, p1, l1, g1, a1, wd1, hg1, s1, lo1, hi1, sl1, fo1, mv1, e1, cb, cg1, x1⟩ := s_explore h hP hc hs sp w0 h0 n0 wl0 t0 k0 p0 l0 g0 a0 wd0 hg0 s0 low high mv
  have sc := exS_sch x1
  unfold f_BargeBasin_faultOfSearch_search11 f_BargeBasin_searcher_search11
  rw [show f_BargeBasin_hasNoBasin cw = some 0 by rw [hc.1]; exact noBas h, ev_b _ rfl, if_pos rfl, ev_b _ rfl, un0_ap, ev_b _ e1, un21_ap]
  by_cases c : (FL B 7 P).length ≤ 6000
  · rw [decide_eq_true c, if_neg (show ¬ bI true = 0 by decide)]
    rcases x1 with ⟨y1, y2, y3⟩ | ⟨-, y2, -⟩
    · subst y2
      obtain ⟨qd2, t2, p2, mv2, di2, qu2, D, e2, d1, d2, d3⟩ := s_measure (sg := sg) h y3 FL_nd cb cg1 hc.2.2.2.1 hmost qd t1 p1 mv1 di qu
      obtain ⟨z0, -⟩ := FL_0 (B := B) (most := 7) (P := P)
      have sx : srX B P most D (nI (FL B 7 P).length) (nI (bw B)) (nI (bh B)) (nI (bn B)) cwl k1 g1 a1 wd1 hg1 s1 lo1 hi1 sl1 fo1 di2 := ⟨c, d1, d2, d3, rfl, y3, rfl, rfl, rfl, hc.2.2.2.1, cb, cg1⟩
      rw [ev_b _ e2, un6_ap]
      have d31 : ∀ u k, u < (FL B 7 P).length → D u = some k → k < 2 ^ 31 := fun u k hu e => by have := d3 u k hu e; omega
      cases all with
      | false =>
        have fo := s_farOf (o := some 0) c d2 (fun u hu => by cases hu; exact z0)
        rw [show (some 0).bind D = D 0 from rfl] at fo
        rw [if_pos (show bI false = 0 by decide), ev_b _ (show f_Search_farOf 0 (nI (FL B 7 P).length) di2 = _ from fo)]
        simp only [oI_pos (fun k hk => d31 0 k z0 hk)]
        by_cases e : D 0 = none
        · rw [if_neg (fun z => z e)]
          exact ⟨_, _, _, _, _, _, _, _, _, _, _, _, _, _, _, _, _, _, _, _, _, _, _, _, rfl, sc, Or.inr ⟨D, sx, by simp [e]⟩⟩
        · rw [if_pos e]
          exact ⟨_, _, _, _, _, _, _, _, _, _, _, _, _, _, _, _, _, _, _, _, _, _, _, _, rfl, sc, Or.inr ⟨D, sx, by simp [e]⟩⟩
      | true =>
        have ft := s_farthest c d2 d31
        have on : ((bestO D (FL B 7 P).length).bind D = none) = (bestO D (FL B 7 P).length = none) := by
          refine propext ⟨fun z => ?_, fun z => by rw [z]; rfl⟩
          cases e : bestO D (FL B 7 P).length with
          | none => rfl
          | some b =>
            rw [e] at z
            exact absurd z (bestO_lt e).2
        rw [if_neg (show ¬ bI true = 0 by decide), ev_b _ ft]
        have sm : ∀ k, (bestO D (FL B 7 P).length).bind D = some k → k < 2 ^ 31 := by
          intro k hk
          cases e : bestO D (FL B 7 P).length with
          | none => rw [e] at hk; cases hk
          | some b =>
            rw [e] at hk
            exact d31 b k (bestO_lt e).1 hk
        simp only [oI_pos sm, on]
        by_cases e : bestO D (FL B 7 P).length = none
        · rw [if_neg (fun z => z e)]
          exact ⟨_, _, _, _, _, _, _, _, _, _, _, _, _, _, _, _, _, _, _, _, _, _, _, _, rfl, sc, Or.inr ⟨D, sx, by simp [e]⟩⟩
        · rw [if_pos e]
          exact ⟨_, _, _, _, _, _, _, _, _, _, _, _, _, _, _, _, _, _, _, _, _, _, _, _, rfl, sc, Or.inr ⟨D, sx, by simp [e]⟩⟩
    · omega
  · rw [decide_eq_false c, if_pos (show bI false = 0 by decide)]
    exact ⟨_, _, _, _, _, _, _, _, _, _, _, _, _, _, _, _, _, _, _, _, _, _, _, _, rfl, sc, Or.inl ⟨by omega, rfl⟩⟩
theorem schI_0 : schI 0 (fun _ => 0) (fun _ => 0) := ⟨[], by simp, rfl, (tab_nil (B := (0, 0, 0, fun _ => 0, fun _ => 0, fun _ => 0, fun _ => 0, fun _ => false)) (klow := fun _ => 0) (khigh := fun _ => 0) (fun _ _ => rfl)).2.2.2⟩
theorem s_init01 : f_BargeBasin_searcher_search01 = some () := by
  unfold f_BargeBasin_searcher_search01
  decide +kernel
theorem s_fault01 {v1 v2 cw chh cn : Int32} {cwl ct : Int64} {ck cp cl cg ca cwd chg : Nat → Int32} {cs : Nat → Int64} (hb : f_BargeBasin_hasNoBasin cw = some 0) : f_BargeBasin_faultOfSearch_search01 v1 v2 cw chh cn cwl ct ck cp cl cg ca cwd chg cs = f_BargeBasin_faultOfSearch_search11 v1 v2 cw chh cn cwl ct ck cp cl cg ca cwd chg cs 0 0 0 0 0 0 0 0 (fun _ => 0) (fun _ => 0) (fun _ => 0) (fun _ => 0) (fun _ => 0) (fun _ => 0) (fun _ => 0) (fun _ => 0) (fun _ => 0) (fun _ => 0) (fun _ => 0) (fun _ => 0) (fun _ => 0) (fun _ => 0) (fun _ => 0) := by
  unfold f_BargeBasin_faultOfSearch_search01 f_BargeBasin_faultOfSearch_search11 f_BargeBasin_searcher_search11
  rw [ev_b _ hb, ev_b _ hb, if_pos rfl, if_pos rfl, ev_b _ s_init01, ev_b _ rfl]
end
section
/-! fewest and fewestSteps of the class, where there is a basin: printed by gen76.py. -/

theorem srX_isD {B : Bas} {P : Nat → Nat} {most : Nat} {D : Nat → Option Nat} (hm : most = 1 ∨ most = 7) (hl : (FL B 7 P).length ≤ 6000) (hd : distOk (FL B 7 P).length (edL B (FL B 7 P) most) (frL B (FL B 7 P)) D) : (∀ u, (hu : u < (FL B 7 P).length) → ∀ k, D u = some k ↔ isD B most (FL B 7 P)[u] k) ∧ ∀ k, D 0 = some k ↔ isD B most P k := by
  have a := dist_isD (clsd_7 hl most hm) hd
  refine ⟨a, fun k => ?_⟩
  obtain ⟨z0, z1⟩ := FL_0 (B := B) (most := 7) (P := P)
  have := a 0 z0 k
  rw [z1] at this
  exact this
/-- what faultOfSearch(.., false) means -/
theorem s_core {B : Bas} {P : Nat → Nat} {sg : Bool} {most : Nat} {D : Nat → Option Nat} {r : Int32} (hmost : most = if sg then 1 else 7) (hl : (FL B 7 P).length ≤ 6000) (hd : distOk (FL B 7 P).length (edL B (FL B 7 P) most) (frL B (FL B 7 P)) D) (hr : r = (if (if false = true then bestO D (FL B 7 P).length else D 0) = none then 11 else 0)) :
    (r = 11 ∧ plX B most P (-1) 11 none) ∨ (r = 0 ∧ ∃ k, isD B most P k ∧ D 0 = some k) := by
  have hm : most = 1 ∨ most = 7 := by rw [hmost]; cases sg <;> simp
  obtain ⟨a, b⟩ := srX_isD hm hl hd
  cases e : D 0 with
  | none =>
    refine Or.inl ⟨by rw [hr]; simp [e], Or.inr (Or.inl ⟨hl, fun k hk => ?_, rfl, rfl, rfl⟩)⟩
    obtain ⟨j, -, hj⟩ := isD_ex hk
    have := (b j).mpr hj
    rw [e] at this; cases this
  | some k => exact Or.inr ⟨by rw [hr]; simp [e], k, (b k).mp e, rfl⟩
theorem s_core2 {B : Bas} {P : Nat → Nat} {sg : Bool} {most k : Nat} {D : Nat → Option Nat} {f w hh n : Int32} {wl : Int64} {kk g a wd hg : Nat → Int32} {s lo hi : Nat → Int64} {sl fo di : Nat → Int32} (h : basOk B) (hmost : most = if sg then 1 else 7) (sx : srX B P most D f w hh n wl kk g a wd hg s lo hi sl fo di) (hk : isD B most P k) (t : Int64) (p mv : Nat → Int32) (ps : Int32) (pm : Nat → Int32) :
    ∃ cs t₉ p₉ mv₉ pm₉, f_Search_writePlan (bI sg) f w hh n wl t kk p a wd hg s lo hi sl mv di ps pm = some (nI cs.length, t₉, p₉, mv₉, nI cs.length, pm₉) ∧ plX B most P (nI cs.length) 0 (some cs) ∧ wrt pm₉ cs ∧ cs.length < 6000 := by
  obtain ⟨x1, x2, x3, x4, x5, x6, x7, x8, x9, x10, x11, x12⟩ := sx
  subst x5; subst x7; subst x8; subst x9
  have hm : most = 1 ∨ most = 7 := by rw [hmost]; cases sg <;> simp
  obtain ⟨z0, z1⟩ := FL_0 (B := B) (most := 7) (P := P)
  obtain ⟨aD, bD⟩ := srX_isD hm x1 x2
  obtain ⟨cs, t₉, p₉, mv₉, pm₉, e, g1, g2, g3⟩ := s_writePlan h x6 x11 x10 hmost (clsd_7 x1 most hm) aD x3 x4 z0 (by rw [z1]; exact hk) t p mv ps pm
  rw [z1] at g1
  have kl := x4 0 k z0 ((bD k).mpr hk)
  exact ⟨cs, t₉, p₉, mv₉, pm₉, e, Or.inr (Or.inr ⟨x1, k, cs, hk, g1, by omega, by rw [g3], rfl, rfl⟩), g2, by omega⟩
/-- whether a plan is found -/
def fnd (B : Bas) (most : Nat) (P : Nat → Nat) : Prop := (FL B 7 P).length ≤ 6000 ∧ ∃ k, canD B most k P

theorem s_fewest_00_11 {B : Bas} {P : Nat → Nat} {cw chh cn : Int32} {cwl ct : Int64} {ck cp cl cg ca cwd chg : Nat → Int32} {cs : Nat → Int64} (h : basOk B) (hP : stC B P) (hc : chX B P cw chh cn cwl ct ck cp cl cg ca cwd chg cs) (hn : ¬ fnd B 7 P) {found : Int32} {slots for1 : Nat → Int32} (hs : schI found slots for1) (qd sp w0 h0 n0 : Int32) (wl0 t0 : Int64) (k0 p0 l0 g0 a0 wd0 hg0 : Nat → Int32) (s0 low high : Nat → Int64) (mv di qu : Nat → Int32) (status : Int32) :
    ∃ (ans st : Int32) (f₉ qd₉ sp₉ w₉ h₉ n₉ : Int32) (wl₉ t₉ : Int64) (k₉ p₉ l₉ g₉ a₉ wd₉ hg₉ : Nat → Int32) (s₉ lo₉ hi₉ : Nat → Int64) (sl₉ fo₉ mv₉ di₉ qu₉ : Nat → Int32), f_BargeBasin_fewest_plan00_search11 status cw chh cn cwl ct ck cp cl cg ca cwd chg cs found qd sp w0 h0 n0 wl0 t0 k0 p0 l0 g0 a0 wd0 hg0 s0 low high slots for1 mv di qu = some (ans, st, f₉, qd₉, sp₉, w₉, h₉, n₉, wl₉, t₉, k₉, p₉, l₉, g₉, a₉, wd₉, hg₉, s₉, lo₉, hi₉, sl₉, fo₉, mv₉, di₉, qu₉) ∧ schI f₉ sl₉ fo₉ ∧ plX B 7 P ans st none := by
  obtain ⟨r, f₉, qd₉, sp₉, w₉, h₉, n₉, wl₉, t₉, k₉, p₉, l₉, g₉, a₉, wd₉, hg₉, s₉, lo₉, hi₉, sl₉, fo₉, mv₉, di₉, qu₉, e, sc, q⟩ := s_fault11 (sg := false) (all := false) h hP hc (most := 7) rfl hs qd sp w0 h0 n0 wl0 t0 k0 p0 l0 g0 a0 wd0 hg0 s0 low high mv di qu
  rw [show bI false = (0 : Int32) from rfl] at e
  unfold f_BargeBasin_fewest_plan00_search11
  rw [ev_b _ e, un24_ap]
  rcases q with ⟨q1, q2⟩ | ⟨D, sx, q2⟩
  · subst q2
    rw [if_neg (show ¬ (10 : Int32) = 0 by decide)]
    exact ⟨_, _, _, _, _, _, _, _, _, _, _, _, _, _, _, _, _, _, _, _, _, _, _, _, _, rfl, sc, Or.inl ⟨q1, rfl, rfl, rfl⟩⟩
  · rcases s_core (sg := false) rfl sx.1 sx.2.1 q2 with ⟨z1, z2⟩ | ⟨z1, k, z2, -⟩
    · subst z1
      rw [if_neg (show ¬ (11 : Int32) = 0 by decide)]
      exact ⟨_, _, _, _, _, _, _, _, _, _, _, _, _, _, _, _, _, _, _, _, _, _, _, _, _, rfl, sc, z2⟩
    · exact absurd ⟨sx.1, k, z2.1⟩ hn
theorem s_fewest_01_11 {B : Bas} {P : Nat → Nat} {cw chh cn : Int32} {cwl ct : Int64} {ck cp cl cg ca cwd chg : Nat → Int32} {cs : Nat → Int64} (h : basOk B) (hP : stC B P) (hc : chX B P cw chh cn cwl ct ck cp cl cg ca cwd chg cs) (hn : fnd B 7 P) {found : Int32} {slots for1 : Nat → Int32} (hs : schI found slots for1) (qd sp w0 h0 n0 : Int32) (wl0 t0 : Int64) (k0 p0 l0 g0 a0 wd0 hg0 : Nat → Int32) (s0 low high : Nat → Int64) (mv di qu : Nat → Int32) (status : Int32) :
    ∃ (ans st : Int32) (f₉ qd₉ sp₉ w₉ h₉ n₉ : Int32) (wl₉ t₉ : Int64) (k₉ p₉ l₉ g₉ a₉ wd₉ hg₉ : Nat → Int32) (s₉ lo₉ hi₉ : Nat → Int64) (sl₉ fo₉ mv₉ di₉ qu₉ : Nat → Int32) (ps₉ : Int32) (pm₉ : Nat → Int32) (cs₉ : List Nat), f_BargeBasin_fewest_plan01_search11 status cw chh cn cwl ct ck cp cl cg ca cwd chg cs found qd sp w0 h0 n0 wl0 t0 k0 p0 l0 g0 a0 wd0 hg0 s0 low high slots for1 mv di qu = some (ans, st, f₉, qd₉, sp₉, w₉, h₉, n₉, wl₉, t₉, k₉, p₉, l₉, g₉, a₉, wd₉, hg₉, s₉, lo₉, hi₉, sl₉, fo₉, mv₉, di₉, qu₉, ps₉, pm₉) ∧ schI f₉ sl₉ fo₉ ∧ plX B 7 P ans st (some cs₉) ∧ ps₉ = nI cs₉.length ∧ wrt pm₉ cs₉ ∧ cs₉.length < 6000 := by
  obtain ⟨r, f₉, qd₉, sp₉, w₉, h₉, n₉, wl₉, t₉, k₉, p₉, l₉, g₉, a₉, wd₉, hg₉, s₉, lo₉, hi₉, sl₉, fo₉, mv₉, di₉, qu₉, e, sc, q⟩ := s_fault11 (sg := false) (all := false) h hP hc (most := 7) rfl hs qd sp w0 h0 n0 wl0 t0 k0 p0 l0 g0 a0 wd0 hg0 s0 low high mv di qu
  rw [show bI false = (0 : Int32) from rfl] at e
  unfold f_BargeBasin_fewest_plan01_search11
  rw [ev_b _ e, un24_ap]
  rcases q with ⟨q1, q2⟩ | ⟨D, sx, q2⟩
  · have := hn.1; omega
  · rcases s_core (sg := false) rfl sx.1 sx.2.1 q2 with ⟨z1, z2⟩ | ⟨z1, k, z2, -⟩
    · exfalso
      obtain ⟨l, k, hk⟩ := hn
      rcases z2 with ⟨y, -⟩ | ⟨-, y, -⟩ | ⟨-, _, _, -, -, -, -, -, y⟩
      · omega
      · exact y k hk
      · cases y
    · subst z1
      obtain ⟨cs₉, t2, p2, mv2, pm2, e2, y1, y2, y3⟩ := s_core2 (sg := false) h rfl sx z2 t₉ p₉ mv₉ 0 (fun _ => 0)
      rw [show bI false = (0 : Int32) from rfl] at e2
      rw [if_pos rfl, ev_b _ (show f_BargeBasin_searcher_search11 = some () from rfl), un0_ap, ev_b _ (show f_BargeBasin_planToKeep_plan01 = some () from rfl), un0_ap, ev_b _ e2, un6_ap]
      exact ⟨_, _, _, _, _, _, _, _, _, _, _, _, _, _, _, _, _, _, _, _, _, _, _, _, _, _, _, cs₉, rfl, sc, y1, rfl, y2, y3⟩
theorem s_fewest_11_11 {B : Bas} {P : Nat → Nat} {cw chh cn : Int32} {cwl ct : Int64} {ck cp cl cg ca cwd chg : Nat → Int32} {cs : Nat → Int64} (h : basOk B) (hP : stC B P) (hc : chX B P cw chh cn cwl ct ck cp cl cg ca cwd chg cs) {found : Int32} {slots for1 : Nat → Int32} (hs : schI found slots for1) (qd sp w0 h0 n0 : Int32) (wl0 t0 : Int64) (k0 p0 l0 g0 a0 wd0 hg0 : Nat → Int32) (s0 low high : Nat → Int64) (mv di qu : Nat → Int32) (status ps : Int32) (pm : Nat → Int32) :
    ∃ (ans st : Int32) (f₉ qd₉ sp₉ w₉ h₉ n₉ : Int32) (wl₉ t₉ : Int64) (k₉ p₉ l₉ g₉ a₉ wd₉ hg₉ : Nat → Int32) (s₉ lo₉ hi₉ : Nat → Int64) (sl₉ fo₉ mv₉ di₉ qu₉ : Nat → Int32) (ps₉ : Int32) (pm₉ : Nat → Int32) (new : Option (List Nat)), f_BargeBasin_fewest_plan11_search11 status cw chh cn cwl ct ck cp cl cg ca cwd chg cs found qd sp w0 h0 n0 wl0 t0 k0 p0 l0 g0 a0 wd0 hg0 s0 low high slots for1 mv di qu ps pm = some (ans, st, f₉, qd₉, sp₉, w₉, h₉, n₉, wl₉, t₉, k₉, p₉, l₉, g₉, a₉, wd₉, hg₉, s₉, lo₉, hi₉, sl₉, fo₉, mv₉, di₉, qu₉, ps₉, pm₉) ∧ schI f₉ sl₉ fo₉ ∧ plX B 7 P ans st new ∧ (new = none → ps₉ = ps ∧ pm₉ = pm) ∧ (∀ cs₉, new = some cs₉ → ps₉ = nI cs₉.length ∧ wrt pm₉ cs₉ ∧ cs₉.length < 6000) := by
  obtain ⟨r, f₉, qd₉, sp₉, w₉, h₉, n₉, wl₉, t₉, k₉, p₉, l₉, g₉, a₉, wd₉, hg₉, s₉, lo₉, hi₉, sl₉, fo₉, mv₉, di₉, qu₉, e, sc, q⟩ := s_fault11 (sg := false) (all := false) h hP hc (most := 7) rfl hs qd sp w0 h0 n0 wl0 t0 k0 p0 l0 g0 a0 wd0 hg0 s0 low high mv di qu
  rw [show bI false = (0 : Int32) from rfl] at e
  unfold f_BargeBasin_fewest_plan11_search11
  rw [ev_b _ e, un24_ap]
  rcases q with ⟨q1, q2⟩ | ⟨D, sx, q2⟩
  · subst q2
    rw [if_neg (show ¬ (10 : Int32) = 0 by decide)]
    exact ⟨_, _, _, _, _, _, _, _, _, _, _, _, _, _, _, _, _, _, _, _, _, _, _, _, _, _, _, none, rfl, sc, Or.inl ⟨q1, rfl, rfl, rfl⟩, fun _ => ⟨rfl, rfl⟩, fun c z => by cases z⟩
  · rcases s_core (sg := false) rfl sx.1 sx.2.1 q2 with ⟨z1, z2⟩ | ⟨z1, k, z2, -⟩
    · subst z1
      rw [if_neg (show ¬ (11 : Int32) = 0 by decide)]
      exact ⟨_, _, _, _, _, _, _, _, _, _, _, _, _, _, _, _, _, _, _, _, _, _, _, _, _, _, _, none, rfl, sc, z2, fun _ => ⟨rfl, rfl⟩, fun c z => by cases z⟩
    · subst z1
      obtain ⟨cs₉, t2, p2, mv2, pm2, e2, y1, y2, y3⟩ := s_core2 (sg := false) h rfl sx z2 t₉ p₉ mv₉ ps pm
      rw [show bI false = (0 : Int32) from rfl] at e2
      rw [if_pos rfl, ev_b _ (show f_BargeBasin_searcher_search11 = some () from rfl), un0_ap, ev_b _ (show f_BargeBasin_planToKeep_plan11 = some () from rfl), un0_ap, ev_b _ e2, un6_ap]
      exact ⟨_, _, _, _, _, _, _, _, _, _, _, _, _, _, _, _, _, _, _, _, _, _, _, _, _, _, _, some cs₉, rfl, sc, y1, fun z => by (cases z), fun c z => by cases z; exact ⟨rfl, y2, y3⟩⟩
theorem s_fewest_00_01 {B : Bas} {P : Nat → Nat} {cw chh cn : Int32} {cwl ct : Int64} {ck cp cl cg ca cwd chg : Nat → Int32} {cs : Nat → Int64} (h : basOk B) (hP : stC B P) (hc : chX B P cw chh cn cwl ct ck cp cl cg ca cwd chg cs) (hn : ¬ fnd B 7 P) (status : Int32) :
    ∃ (ans st : Int32) (f₉ qd₉ sp₉ w₉ h₉ n₉ : Int32) (wl₉ t₉ : Int64) (k₉ p₉ l₉ g₉ a₉ wd₉ hg₉ : Nat → Int32) (s₉ lo₉ hi₉ : Nat → Int64) (sl₉ fo₉ mv₉ di₉ qu₉ : Nat → Int32), f_BargeBasin_fewest_plan00_search01 status cw chh cn cwl ct ck cp cl cg ca cwd chg cs = some (ans, st, f₉, qd₉, sp₉, w₉, h₉, n₉, wl₉, t₉, k₉, p₉, l₉, g₉, a₉, wd₉, hg₉, s₉, lo₉, hi₉, sl₉, fo₉, mv₉, di₉, qu₉) ∧ schI f₉ sl₉ fo₉ ∧ plX B 7 P ans st none := by
  obtain ⟨r, f₉, qd₉, sp₉, w₉, h₉, n₉, wl₉, t₉, k₉, p₉, l₉, g₉, a₉, wd₉, hg₉, s₉, lo₉, hi₉, sl₉, fo₉, mv₉, di₉, qu₉, e, sc, q⟩ := s_fault11 (sg := false) (all := false) h hP hc (most := 7) rfl schI_0 0 0 0 0 0 0 0 (fun _ => 0) (fun _ => 0) (fun _ => 0) (fun _ => 0) (fun _ => 0) (fun _ => 0) (fun _ => 0) (fun _ => 0) (fun _ => 0) (fun _ => 0) (fun _ => 0) (fun _ => 0) (fun _ => 0)
  rw [show bI false = (0 : Int32) from rfl] at e
  unfold f_BargeBasin_fewest_plan00_search01
  rw [s_fault01 (by rw [hc.1]; exact noBas h), ev_b _ e, un24_ap]
  rcases q with ⟨q1, q2⟩ | ⟨D, sx, q2⟩
  · subst q2
    rw [if_neg (show ¬ (10 : Int32) = 0 by decide)]
    exact ⟨_, _, _, _, _, _, _, _, _, _, _, _, _, _, _, _, _, _, _, _, _, _, _, _, _, rfl, sc, Or.inl ⟨q1, rfl, rfl, rfl⟩⟩
  · rcases s_core (sg := false) rfl sx.1 sx.2.1 q2 with ⟨z1, z2⟩ | ⟨z1, k, z2, -⟩
    · subst z1
      rw [if_neg (show ¬ (11 : Int32) = 0 by decide)]
      exact ⟨_, _, _, _, _, _, _, _, _, _, _, _, _, _, _, _, _, _, _, _, _, _, _, _, _, rfl, sc, z2⟩
    · exact absurd ⟨sx.1, k, z2.1⟩ hn
theorem s_fewest_01_01 {B : Bas} {P : Nat → Nat} {cw chh cn : Int32} {cwl ct : Int64} {ck cp cl cg ca cwd chg : Nat → Int32} {cs : Nat → Int64} (h : basOk B) (hP : stC B P) (hc : chX B P cw chh cn cwl ct ck cp cl cg ca cwd chg cs) (hn : fnd B 7 P) (status : Int32) :
    ∃ (ans st : Int32) (f₉ qd₉ sp₉ w₉ h₉ n₉ : Int32) (wl₉ t₉ : Int64) (k₉ p₉ l₉ g₉ a₉ wd₉ hg₉ : Nat → Int32) (s₉ lo₉ hi₉ : Nat → Int64) (sl₉ fo₉ mv₉ di₉ qu₉ : Nat → Int32) (ps₉ : Int32) (pm₉ : Nat → Int32) (cs₉ : List Nat), f_BargeBasin_fewest_plan01_search01 status cw chh cn cwl ct ck cp cl cg ca cwd chg cs = some (ans, st, f₉, qd₉, sp₉, w₉, h₉, n₉, wl₉, t₉, k₉, p₉, l₉, g₉, a₉, wd₉, hg₉, s₉, lo₉, hi₉, sl₉, fo₉, mv₉, di₉, qu₉, ps₉, pm₉) ∧ schI f₉ sl₉ fo₉ ∧ plX B 7 P ans st (some cs₉) ∧ ps₉ = nI cs₉.length ∧ wrt pm₉ cs₉ ∧ cs₉.length < 6000 := by
  obtain ⟨r, f₉, qd₉, sp₉, w₉, h₉, n₉, wl₉, t₉, k₉, p₉, l₉, g₉, a₉, wd₉, hg₉, s₉, lo₉, hi₉, sl₉, fo₉, mv₉, di₉, qu₉, e, sc, q⟩ := s_fault11 (sg := false) (all := false) h hP hc (most := 7) rfl schI_0 0 0 0 0 0 0 0 (fun _ => 0) (fun _ => 0) (fun _ => 0) (fun _ => 0) (fun _ => 0) (fun _ => 0) (fun _ => 0) (fun _ => 0) (fun _ => 0) (fun _ => 0) (fun _ => 0) (fun _ => 0) (fun _ => 0)
  rw [show bI false = (0 : Int32) from rfl] at e
  unfold f_BargeBasin_fewest_plan01_search01
  rw [s_fault01 (by rw [hc.1]; exact noBas h), ev_b _ e, un24_ap]
  rcases q with ⟨q1, q2⟩ | ⟨D, sx, q2⟩
  · have := hn.1; omega
  · rcases s_core (sg := false) rfl sx.1 sx.2.1 q2 with ⟨z1, z2⟩ | ⟨z1, k, z2, -⟩
    · exfalso
      obtain ⟨l, k, hk⟩ := hn
      rcases z2 with ⟨y, -⟩ | ⟨-, y, -⟩ | ⟨-, _, _, -, -, -, -, -, y⟩
      · omega
      · exact y k hk
      · cases y
    · subst z1
      obtain ⟨cs₉, t2, p2, mv2, pm2, e2, y1, y2, y3⟩ := s_core2 (sg := false) h rfl sx z2 t₉ p₉ mv₉ 0 (fun _ => 0)
      rw [show bI false = (0 : Int32) from rfl] at e2
      rw [if_pos rfl, ev_b _ (show f_BargeBasin_searcher_search11 = some () from rfl), un0_ap, ev_b _ (show f_BargeBasin_planToKeep_plan01 = some () from rfl), un0_ap, ev_b _ e2, un6_ap]
      exact ⟨_, _, _, _, _, _, _, _, _, _, _, _, _, _, _, _, _, _, _, _, _, _, _, _, _, _, _, cs₉, rfl, sc, y1, rfl, y2, y3⟩
theorem s_fewest_11_01 {B : Bas} {P : Nat → Nat} {cw chh cn : Int32} {cwl ct : Int64} {ck cp cl cg ca cwd chg : Nat → Int32} {cs : Nat → Int64} (h : basOk B) (hP : stC B P) (hc : chX B P cw chh cn cwl ct ck cp cl cg ca cwd chg cs) (status ps : Int32) (pm : Nat → Int32) :
    ∃ (ans st : Int32) (f₉ qd₉ sp₉ w₉ h₉ n₉ : Int32) (wl₉ t₉ : Int64) (k₉ p₉ l₉ g₉ a₉ wd₉ hg₉ : Nat → Int32) (s₉ lo₉ hi₉ : Nat → Int64) (sl₉ fo₉ mv₉ di₉ qu₉ : Nat → Int32) (ps₉ : Int32) (pm₉ : Nat → Int32) (new : Option (List Nat)), f_BargeBasin_fewest_plan11_search01 status cw chh cn cwl ct ck cp cl cg ca cwd chg cs ps pm = some (ans, st, ps₉, pm₉, f₉, qd₉, sp₉, w₉, h₉, n₉, wl₉, t₉, k₉, p₉, l₉, g₉, a₉, wd₉, hg₉, s₉, lo₉, hi₉, sl₉, fo₉, mv₉, di₉, qu₉) ∧ schI f₉ sl₉ fo₉ ∧ plX B 7 P ans st new ∧ (new = none → ps₉ = ps ∧ pm₉ = pm) ∧ (∀ cs₉, new = some cs₉ → ps₉ = nI cs₉.length ∧ wrt pm₉ cs₉ ∧ cs₉.length < 6000) := by
  obtain ⟨r, f₉, qd₉, sp₉, w₉, h₉, n₉, wl₉, t₉, k₉, p₉, l₉, g₉, a₉, wd₉, hg₉, s₉, lo₉, hi₉, sl₉, fo₉, mv₉, di₉, qu₉, e, sc, q⟩ := s_fault11 (sg := false) (all := false) h hP hc (most := 7) rfl schI_0 0 0 0 0 0 0 0 (fun _ => 0) (fun _ => 0) (fun _ => 0) (fun _ => 0) (fun _ => 0) (fun _ => 0) (fun _ => 0) (fun _ => 0) (fun _ => 0) (fun _ => 0) (fun _ => 0) (fun _ => 0) (fun _ => 0)
  rw [show bI false = (0 : Int32) from rfl] at e
  unfold f_BargeBasin_fewest_plan11_search01
  rw [s_fault01 (by rw [hc.1]; exact noBas h), ev_b _ e, un24_ap]
  rcases q with ⟨q1, q2⟩ | ⟨D, sx, q2⟩
  · subst q2
    rw [if_neg (show ¬ (10 : Int32) = 0 by decide)]
    exact ⟨_, _, _, _, _, _, _, _, _, _, _, _, _, _, _, _, _, _, _, _, _, _, _, _, _, _, _, none, rfl, sc, Or.inl ⟨q1, rfl, rfl, rfl⟩, fun _ => ⟨rfl, rfl⟩, fun c z => by cases z⟩
  · rcases s_core (sg := false) rfl sx.1 sx.2.1 q2 with ⟨z1, z2⟩ | ⟨z1, k, z2, -⟩
    · subst z1
      rw [if_neg (show ¬ (11 : Int32) = 0 by decide)]
      exact ⟨_, _, _, _, _, _, _, _, _, _, _, _, _, _, _, _, _, _, _, _, _, _, _, _, _, _, _, none, rfl, sc, z2, fun _ => ⟨rfl, rfl⟩, fun c z => by cases z⟩
    · subst z1
      obtain ⟨cs₉, t2, p2, mv2, pm2, e2, y1, y2, y3⟩ := s_core2 (sg := false) h rfl sx z2 t₉ p₉ mv₉ ps pm
      rw [show bI false = (0 : Int32) from rfl] at e2
      rw [if_pos rfl, ev_b _ (show f_BargeBasin_searcher_search11 = some () from rfl), un0_ap, ev_b _ (show f_BargeBasin_planToKeep_plan11 = some () from rfl), un0_ap, ev_b _ e2, un6_ap]
      exact ⟨_, _, _, _, _, _, _, _, _, _, _, _, _, _, _, _, _, _, _, _, _, _, _, _, _, _, _, some cs₉, rfl, sc, y1, fun z => by (cases z), fun c z => by cases z; exact ⟨rfl, y2, y3⟩⟩
theorem s_fewestSteps_00_11 {B : Bas} {P : Nat → Nat} {cw chh cn : Int32} {cwl ct : Int64} {ck cp cl cg ca cwd chg : Nat → Int32} {cs : Nat → Int64} (h : basOk B) (hP : stC B P) (hc : chX B P cw chh cn cwl ct ck cp cl cg ca cwd chg cs) (hn : ¬ fnd B 1 P) {found : Int32} {slots for1 : Nat → Int32} (hs : schI found slots for1) (qd sp w0 h0 n0 : Int32) (wl0 t0 : Int64) (k0 p0 l0 g0 a0 wd0 hg0 : Nat → Int32) (s0 low high : Nat → Int64) (mv di qu : Nat → Int32) (status : Int32) :
    ∃ (ans st : Int32) (f₉ qd₉ sp₉ w₉ h₉ n₉ : Int32) (wl₉ t₉ : Int64) (k₉ p₉ l₉ g₉ a₉ wd₉ hg₉ : Nat → Int32) (s₉ lo₉ hi₉ : Nat → Int64) (sl₉ fo₉ mv₉ di₉ qu₉ : Nat → Int32), f_BargeBasin_fewestSteps_plan00_search11 status cw chh cn cwl ct ck cp cl cg ca cwd chg cs found qd sp w0 h0 n0 wl0 t0 k0 p0 l0 g0 a0 wd0 hg0 s0 low high slots for1 mv di qu = some (ans, st, f₉, qd₉, sp₉, w₉, h₉, n₉, wl₉, t₉, k₉, p₉, l₉, g₉, a₉, wd₉, hg₉, s₉, lo₉, hi₉, sl₉, fo₉, mv₉, di₉, qu₉) ∧ schI f₉ sl₉ fo₉ ∧ plX B 1 P ans st none := by
  obtain ⟨r, f₉, qd₉, sp₉, w₉, h₉, n₉, wl₉, t₉, k₉, p₉, l₉, g₉, a₉, wd₉, hg₉, s₉, lo₉, hi₉, sl₉, fo₉, mv₉, di₉, qu₉, e, sc, q⟩ := s_fault11 (sg := true) (all := false) h hP hc (most := 1) rfl hs qd sp w0 h0 n0 wl0 t0 k0 p0 l0 g0 a0 wd0 hg0 s0 low high mv di qu
  rw [show bI true = (1 : Int32) from rfl, show bI false = (0 : Int32) from rfl] at e
  unfold f_BargeBasin_fewestSteps_plan00_search11
  rw [ev_b _ e, un24_ap]
  rcases q with ⟨q1, q2⟩ | ⟨D, sx, q2⟩
  · subst q2
    rw [if_neg (show ¬ (10 : Int32) = 0 by decide)]
    exact ⟨_, _, _, _, _, _, _, _, _, _, _, _, _, _, _, _, _, _, _, _, _, _, _, _, _, rfl, sc, Or.inl ⟨q1, rfl, rfl, rfl⟩⟩
  · rcases s_core (sg := true) rfl sx.1 sx.2.1 q2 with ⟨z1, z2⟩ | ⟨z1, k, z2, -⟩
    · subst z1
      rw [if_neg (show ¬ (11 : Int32) = 0 by decide)]
      exact ⟨_, _, _, _, _, _, _, _, _, _, _, _, _, _, _, _, _, _, _, _, _, _, _, _, _, rfl, sc, z2⟩
    · exact absurd ⟨sx.1, k, z2.1⟩ hn
theorem s_fewestSteps_01_11 {B : Bas} {P : Nat → Nat} {cw chh cn : Int32} {cwl ct : Int64} {ck cp cl cg ca cwd chg : Nat → Int32} {cs : Nat → Int64} (h : basOk B) (hP : stC B P) (hc : chX B P cw chh cn cwl ct ck cp cl cg ca cwd chg cs) (hn : fnd B 1 P) {found : Int32} {slots for1 : Nat → Int32} (hs : schI found slots for1) (qd sp w0 h0 n0 : Int32) (wl0 t0 : Int64) (k0 p0 l0 g0 a0 wd0 hg0 : Nat → Int32) (s0 low high : Nat → Int64) (mv di qu : Nat → Int32) (status : Int32) :
    ∃ (ans st : Int32) (f₉ qd₉ sp₉ w₉ h₉ n₉ : Int32) (wl₉ t₉ : Int64) (k₉ p₉ l₉ g₉ a₉ wd₉ hg₉ : Nat → Int32) (s₉ lo₉ hi₉ : Nat → Int64) (sl₉ fo₉ mv₉ di₉ qu₉ : Nat → Int32) (ps₉ : Int32) (pm₉ : Nat → Int32) (cs₉ : List Nat), f_BargeBasin_fewestSteps_plan01_search11 status cw chh cn cwl ct ck cp cl cg ca cwd chg cs found qd sp w0 h0 n0 wl0 t0 k0 p0 l0 g0 a0 wd0 hg0 s0 low high slots for1 mv di qu = some (ans, st, f₉, qd₉, sp₉, w₉, h₉, n₉, wl₉, t₉, k₉, p₉, l₉, g₉, a₉, wd₉, hg₉, s₉, lo₉, hi₉, sl₉, fo₉, mv₉, di₉, qu₉, ps₉, pm₉) ∧ schI f₉ sl₉ fo₉ ∧ plX B 1 P ans st (some cs₉) ∧ ps₉ = nI cs₉.length ∧ wrt pm₉ cs₉ ∧ cs₉.length < 6000 := by
  obtain ⟨r, f₉, qd₉, sp₉, w₉, h₉, n₉, wl₉, t₉, k₉, p₉, l₉, g₉, a₉, wd₉, hg₉, s₉, lo₉, hi₉, sl₉, fo₉, mv₉, di₉, qu₉, e, sc, q⟩ := s_fault11 (sg := true) (all := false) h hP hc (most := 1) rfl hs qd sp w0 h0 n0 wl0 t0 k0 p0 l0 g0 a0 wd0 hg0 s0 low high mv di qu
  rw [show bI true = (1 : Int32) from rfl, show bI false = (0 : Int32) from rfl] at e
  unfold f_BargeBasin_fewestSteps_plan01_search11
  rw [ev_b _ e, un24_ap]
  rcases q with ⟨q1, q2⟩ | ⟨D, sx, q2⟩
  · have := hn.1; omega
  · rcases s_core (sg := true) rfl sx.1 sx.2.1 q2 with ⟨z1, z2⟩ | ⟨z1, k, z2, -⟩
    · exfalso
      obtain ⟨l, k, hk⟩ := hn
      rcases z2 with ⟨y, -⟩ | ⟨-, y, -⟩ | ⟨-, _, _, -, -, -, -, -, y⟩
      · omega
      · exact y k hk
      · cases y
    · subst z1
      obtain ⟨cs₉, t2, p2, mv2, pm2, e2, y1, y2, y3⟩ := s_core2 (sg := true) h rfl sx z2 t₉ p₉ mv₉ 0 (fun _ => 0)
      rw [show bI true = (1 : Int32) from rfl] at e2
      rw [if_pos rfl, ev_b _ (show f_BargeBasin_searcher_search11 = some () from rfl), un0_ap, ev_b _ (show f_BargeBasin_planToKeep_plan01 = some () from rfl), un0_ap, ev_b _ e2, un6_ap]
      exact ⟨_, _, _, _, _, _, _, _, _, _, _, _, _, _, _, _, _, _, _, _, _, _, _, _, _, _, _, cs₉, rfl, sc, y1, rfl, y2, y3⟩
theorem s_fewestSteps_11_11 {B : Bas} {P : Nat → Nat} {cw chh cn : Int32} {cwl ct : Int64} {ck cp cl cg ca cwd chg : Nat → Int32} {cs : Nat → Int64} (h : basOk B) (hP : stC B P) (hc : chX B P cw chh cn cwl ct ck cp cl cg ca cwd chg cs) {found : Int32} {slots for1 : Nat → Int32} (hs : schI found slots for1) (qd sp w0 h0 n0 : Int32) (wl0 t0 : Int64) (k0 p0 l0 g0 a0 wd0 hg0 : Nat → Int32) (s0 low high : Nat → Int64) (mv di qu : Nat → Int32) (status ps : Int32) (pm : Nat → Int32) :
    ∃ (ans st : Int32) (f₉ qd₉ sp₉ w₉ h₉ n₉ : Int32) (wl₉ t₉ : Int64) (k₉ p₉ l₉ g₉ a₉ wd₉ hg₉ : Nat → Int32) (s₉ lo₉ hi₉ : Nat → Int64) (sl₉ fo₉ mv₉ di₉ qu₉ : Nat → Int32) (ps₉ : Int32) (pm₉ : Nat → Int32) (new : Option (List Nat)), f_BargeBasin_fewestSteps_plan11_search11 status cw chh cn cwl ct ck cp cl cg ca cwd chg cs found qd sp w0 h0 n0 wl0 t0 k0 p0 l0 g0 a0 wd0 hg0 s0 low high slots for1 mv di qu ps pm = some (ans, st, f₉, qd₉, sp₉, w₉, h₉, n₉, wl₉, t₉, k₉, p₉, l₉, g₉, a₉, wd₉, hg₉, s₉, lo₉, hi₉, sl₉, fo₉, mv₉, di₉, qu₉, ps₉, pm₉) ∧ schI f₉ sl₉ fo₉ ∧ plX B 1 P ans st new ∧ (new = none → ps₉ = ps ∧ pm₉ = pm) ∧ (∀ cs₉, new = some cs₉ → ps₉ = nI cs₉.length ∧ wrt pm₉ cs₉ ∧ cs₉.length < 6000) := by
  obtain ⟨r, f₉, qd₉, sp₉, w₉, h₉, n₉, wl₉, t₉, k₉, p₉, l₉, g₉, a₉, wd₉, hg₉, s₉, lo₉, hi₉, sl₉, fo₉, mv₉, di₉, qu₉, e, sc, q⟩ := s_fault11 (sg := true) (all := false) h hP hc (most := 1) rfl hs qd sp w0 h0 n0 wl0 t0 k0 p0 l0 g0 a0 wd0 hg0 s0 low high mv di qu
  rw [show bI true = (1 : Int32) from rfl, show bI false = (0 : Int32) from rfl] at e
  unfold f_BargeBasin_fewestSteps_plan11_search11
  rw [ev_b _ e, un24_ap]
  rcases q with ⟨q1, q2⟩ | ⟨D, sx, q2⟩
  · subst q2
    rw [if_neg (show ¬ (10 : Int32) = 0 by decide)]
    exact ⟨_, _, _, _, _, _, _, _, _, _, _, _, _, _, _, _, _, _, _, _, _, _, _, _, _, _, _, none, rfl, sc, Or.inl ⟨q1, rfl, rfl, rfl⟩, fun _ => ⟨rfl, rfl⟩, fun c z => by cases z⟩
  · rcases s_core (sg := true) rfl sx.1 sx.2.1 q2 with ⟨z1, z2⟩ | ⟨z1, k, z2, -⟩
    · subst z1
      rw [if_neg (show ¬ (11 : Int32) = 0 by decide)]
      exact ⟨_, _, _, _, _, _, _, _, _, _, _, _, _, _, _, _, _, _, _, _, _, _, _, _, _, _, _, none, rfl, sc, z2, fun _ => ⟨rfl, rfl⟩, fun c z => by cases z⟩
    · subst z1
      obtain ⟨cs₉, t2, p2, mv2, pm2, e2, y1, y2, y3⟩ := s_core2 (sg := true) h rfl sx z2 t₉ p₉ mv₉ ps pm
      rw [show bI true = (1 : Int32) from rfl] at e2
      rw [if_pos rfl, ev_b _ (show f_BargeBasin_searcher_search11 = some () from rfl), un0_ap, ev_b _ (show f_BargeBasin_planToKeep_plan11 = some () from rfl), un0_ap, ev_b _ e2, un6_ap]
      exact ⟨_, _, _, _, _, _, _, _, _, _, _, _, _, _, _, _, _, _, _, _, _, _, _, _, _, _, _, some cs₉, rfl, sc, y1, fun z => by (cases z), fun c z => by cases z; exact ⟨rfl, y2, y3⟩⟩
theorem s_fewestSteps_00_01 {B : Bas} {P : Nat → Nat} {cw chh cn : Int32} {cwl ct : Int64} {ck cp cl cg ca cwd chg : Nat → Int32} {cs : Nat → Int64} (h : basOk B) (hP : stC B P) (hc : chX B P cw chh cn cwl ct ck cp cl cg ca cwd chg cs) (hn : ¬ fnd B 1 P) (status : Int32) :
    ∃ (ans st : Int32) (f₉ qd₉ sp₉ w₉ h₉ n₉ : Int32) (wl₉ t₉ : Int64) (k₉ p₉ l₉ g₉ a₉ wd₉ hg₉ : Nat → Int32) (s₉ lo₉ hi₉ : Nat → Int64) (sl₉ fo₉ mv₉ di₉ qu₉ : Nat → Int32), f_BargeBasin_fewestSteps_plan00_search01 status cw chh cn cwl ct ck cp cl cg ca cwd chg cs = some (ans, st, f₉, qd₉, sp₉, w₉, h₉, n₉, wl₉, t₉, k₉, p₉, l₉, g₉, a₉, wd₉, hg₉, s₉, lo₉, hi₉, sl₉, fo₉, mv₉, di₉, qu₉) ∧ schI f₉ sl₉ fo₉ ∧ plX B 1 P ans st none := by
  obtain ⟨r, f₉, qd₉, sp₉, w₉, h₉, n₉, wl₉, t₉, k₉, p₉, l₉, g₉, a₉, wd₉, hg₉, s₉, lo₉, hi₉, sl₉, fo₉, mv₉, di₉, qu₉, e, sc, q⟩ := s_fault11 (sg := true) (all := false) h hP hc (most := 1) rfl schI_0 0 0 0 0 0 0 0 (fun _ => 0) (fun _ => 0) (fun _ => 0) (fun _ => 0) (fun _ => 0) (fun _ => 0) (fun _ => 0) (fun _ => 0) (fun _ => 0) (fun _ => 0) (fun _ => 0) (fun _ => 0) (fun _ => 0)
  rw [show bI true = (1 : Int32) from rfl, show bI false = (0 : Int32) from rfl] at e
  unfold f_BargeBasin_fewestSteps_plan00_search01
  rw [s_fault01 (by rw [hc.1]; exact noBas h), ev_b _ e, un24_ap]
  rcases q with ⟨q1, q2⟩ | ⟨D, sx, q2⟩
  · subst q2
    rw [if_neg (show ¬ (10 : Int32) = 0 by decide)]
    exact ⟨_, _, _, _, _, _, _, _, _, _, _, _, _, _, _, _, _, _, _, _, _, _, _, _, _, rfl, sc, Or.inl ⟨q1, rfl, rfl, rfl⟩⟩
  · rcases s_core (sg := true) rfl sx.1 sx.2.1 q2 with ⟨z1, z2⟩ | ⟨z1, k, z2, -⟩
    · subst z1
      rw [if_neg (show ¬ (11 : Int32) = 0 by decide)]
      exact ⟨_, _, _, _, _, _, _, _, _, _, _, _, _, _, _, _, _, _, _, _, _, _, _, _, _, rfl, sc, z2⟩
    · exact absurd ⟨sx.1, k, z2.1⟩ hn
theorem s_fewestSteps_01_01 {B : Bas} {P : Nat → Nat} {cw chh cn : Int32} {cwl ct : Int64} {ck cp cl cg ca cwd chg : Nat → Int32} {cs : Nat → Int64} (h : basOk B) (hP : stC B P) (hc : chX B P cw chh cn cwl ct ck cp cl cg ca cwd chg cs) (hn : fnd B 1 P) (status : Int32) :
    ∃ (ans st : Int32) (f₉ qd₉ sp₉ w₉ h₉ n₉ : Int32) (wl₉ t₉ : Int64) (k₉ p₉ l₉ g₉ a₉ wd₉ hg₉ : Nat → Int32) (s₉ lo₉ hi₉ : Nat → Int64) (sl₉ fo₉ mv₉ di₉ qu₉ : Nat → Int32) (ps₉ : Int32) (pm₉ : Nat → Int32) (cs₉ : List Nat), f_BargeBasin_fewestSteps_plan01_search01 status cw chh cn cwl ct ck cp cl cg ca cwd chg cs = some (ans, st, f₉, qd₉, sp₉, w₉, h₉, n₉, wl₉, t₉, k₉, p₉, l₉, g₉, a₉, wd₉, hg₉, s₉, lo₉, hi₉, sl₉, fo₉, mv₉, di₉, qu₉, ps₉, pm₉) ∧ schI f₉ sl₉ fo₉ ∧ plX B 1 P ans st (some cs₉) ∧ ps₉ = nI cs₉.length ∧ wrt pm₉ cs₉ ∧ cs₉.length < 6000 := by
  obtain ⟨r, f₉, qd₉, sp₉, w₉, h₉, n₉, wl₉, t₉, k₉, p₉, l₉, g₉, a₉, wd₉, hg₉, s₉, lo₉, hi₉, sl₉, fo₉, mv₉, di₉, qu₉, e, sc, q⟩ := s_fault11 (sg := true) (all := false) h hP hc (most := 1) rfl schI_0 0 0 0 0 0 0 0 (fun _ => 0) (fun _ => 0) (fun _ => 0) (fun _ => 0) (fun _ => 0) (fun _ => 0) (fun _ => 0) (fun _ => 0) (fun _ => 0) (fun _ => 0) (fun _ => 0) (fun _ => 0) (fun _ => 0)
  rw [show bI true = (1 : Int32) from rfl, show bI false = (0 : Int32) from rfl] at e
  unfold f_BargeBasin_fewestSteps_plan01_search01
  rw [s_fault01 (by rw [hc.1]; exact noBas h), ev_b _ e, un24_ap]
  rcases q with ⟨q1, q2⟩ | ⟨D, sx, q2⟩
  · have := hn.1; omega
  · rcases s_core (sg := true) rfl sx.1 sx.2.1 q2 with ⟨z1, z2⟩ | ⟨z1, k, z2, -⟩
    · exfalso
      obtain ⟨l, k, hk⟩ := hn
      rcases z2 with ⟨y, -⟩ | ⟨-, y, -⟩ | ⟨-, _, _, -, -, -, -, -, y⟩
      · omega
      · exact y k hk
      · cases y
    · subst z1
      obtain ⟨cs₉, t2, p2, mv2, pm2, e2, y1, y2, y3⟩ := s_core2 (sg := true) h rfl sx z2 t₉ p₉ mv₉ 0 (fun _ => 0)
      rw [show bI true = (1 : Int32) from rfl] at e2
      rw [if_pos rfl, ev_b _ (show f_BargeBasin_searcher_search11 = some () from rfl), un0_ap, ev_b _ (show f_BargeBasin_planToKeep_plan01 = some () from rfl), un0_ap, ev_b _ e2, un6_ap]
      exact ⟨_, _, _, _, _, _, _, _, _, _, _, _, _, _, _, _, _, _, _, _, _, _, _, _, _, _, _, cs₉, rfl, sc, y1, rfl, y2, y3⟩
theorem s_fewestSteps_11_01 {B : Bas} {P : Nat → Nat} {cw chh cn : Int32} {cwl ct : Int64} {ck cp cl cg ca cwd chg : Nat → Int32} {cs : Nat → Int64} (h : basOk B) (hP : stC B P) (hc : chX B P cw chh cn cwl ct ck cp cl cg ca cwd chg cs) (status ps : Int32) (pm : Nat → Int32) :
    ∃ (ans st : Int32) (f₉ qd₉ sp₉ w₉ h₉ n₉ : Int32) (wl₉ t₉ : Int64) (k₉ p₉ l₉ g₉ a₉ wd₉ hg₉ : Nat → Int32) (s₉ lo₉ hi₉ : Nat → Int64) (sl₉ fo₉ mv₉ di₉ qu₉ : Nat → Int32) (ps₉ : Int32) (pm₉ : Nat → Int32) (new : Option (List Nat)), f_BargeBasin_fewestSteps_plan11_search01 status cw chh cn cwl ct ck cp cl cg ca cwd chg cs ps pm = some (ans, st, ps₉, pm₉, f₉, qd₉, sp₉, w₉, h₉, n₉, wl₉, t₉, k₉, p₉, l₉, g₉, a₉, wd₉, hg₉, s₉, lo₉, hi₉, sl₉, fo₉, mv₉, di₉, qu₉) ∧ schI f₉ sl₉ fo₉ ∧ plX B 1 P ans st new ∧ (new = none → ps₉ = ps ∧ pm₉ = pm) ∧ (∀ cs₉, new = some cs₉ → ps₉ = nI cs₉.length ∧ wrt pm₉ cs₉ ∧ cs₉.length < 6000) := by
  obtain ⟨r, f₉, qd₉, sp₉, w₉, h₉, n₉, wl₉, t₉, k₉, p₉, l₉, g₉, a₉, wd₉, hg₉, s₉, lo₉, hi₉, sl₉, fo₉, mv₉, di₉, qu₉, e, sc, q⟩ := s_fault11 (sg := true) (all := false) h hP hc (most := 1) rfl schI_0 0 0 0 0 0 0 0 (fun _ => 0) (fun _ => 0) (fun _ => 0) (fun _ => 0) (fun _ => 0) (fun _ => 0) (fun _ => 0) (fun _ => 0) (fun _ => 0) (fun _ => 0) (fun _ => 0) (fun _ => 0) (fun _ => 0)
  rw [show bI true = (1 : Int32) from rfl, show bI false = (0 : Int32) from rfl] at e
  unfold f_BargeBasin_fewestSteps_plan11_search01
  rw [s_fault01 (by rw [hc.1]; exact noBas h), ev_b _ e, un24_ap]
  rcases q with ⟨q1, q2⟩ | ⟨D, sx, q2⟩
  · subst q2
    rw [if_neg (show ¬ (10 : Int32) = 0 by decide)]
    exact ⟨_, _, _, _, _, _, _, _, _, _, _, _, _, _, _, _, _, _, _, _, _, _, _, _, _, _, _, none, rfl, sc, Or.inl ⟨q1, rfl, rfl, rfl⟩, fun _ => ⟨rfl, rfl⟩, fun c z => by cases z⟩
  · rcases s_core (sg := true) rfl sx.1 sx.2.1 q2 with ⟨z1, z2⟩ | ⟨z1, k, z2, -⟩
    · subst z1
      rw [if_neg (show ¬ (11 : Int32) = 0 by decide)]
      exact ⟨_, _, _, _, _, _, _, _, _, _, _, _, _, _, _, _, _, _, _, _, _, _, _, _, _, _, _, none, rfl, sc, z2, fun _ => ⟨rfl, rfl⟩, fun c z => by cases z⟩
    · subst z1
      obtain ⟨cs₉, t2, p2, mv2, pm2, e2, y1, y2, y3⟩ := s_core2 (sg := true) h rfl sx z2 t₉ p₉ mv₉ ps pm
      rw [show bI true = (1 : Int32) from rfl] at e2
      rw [if_pos rfl, ev_b _ (show f_BargeBasin_searcher_search11 = some () from rfl), un0_ap, ev_b _ (show f_BargeBasin_planToKeep_plan11 = some () from rfl), un0_ap, ev_b _ e2, un6_ap]
      exact ⟨_, _, _, _, _, _, _, _, _, _, _, _, _, _, _, _, _, _, _, _, _, _, _, _, _, _, _, some cs₉, rfl, sc, y1, fun z => by (cases z), fun c z => by cases z; exact ⟨rfl, y2, y3⟩⟩
end
section
/-! all, must, reach, far, go of the class, where there is a basin: printed by gen77.py. -/
def allX (B : Bas) (P : Nat → Nat) (ans : Int64) (st : Int32) : Prop := ∃ n, wyX B none P n ∧ ((n < 0 ∧ ans = -1 ∧ st = (-n).toInt32) ∨ (¬ n < 0 ∧ n < 4611686018427387904 ∧ ans = n ∧ st = 0) ∨ (¬ n < 0 ∧ ¬ n < 4611686018427387904 ∧ ans = -1 ∧ st = 10))
def mustX (B : Bas) (b : Nat) (P : Nat → Nat) (ans st : Int32) : Prop := ∃ n, wyX B (some b) P n ∧ ((n < 0 ∧ ans = -1 ∧ st = (-n).toInt32) ∨ (¬ n < 0 ∧ n = 0 ∧ ans = 1 ∧ st = 0) ∨ (¬ n < 0 ∧ ¬ n = 0 ∧ ans = 0 ∧ st = 0))
def reachX (B : Bas) (P : Nat → Nat) (ans st : Int32) : Prop := ((FL B 7 P).length ≤ 6000 ∧ ans = nI (FL B 7 P).length ∧ st = 0) ∨ (6000 < (FL B 7 P).length ∧ ans = -1 ∧ st = 10)
/-- the hardest stand, and how far it is -/
def bstX (B : Bas) (P : Nat → Nat) (b k : Nat) : Prop := ∃ D, distOk (FL B 7 P).length (edL B (FL B 7 P) 7) (frL B (FL B 7 P)) D ∧ bestO D (FL B 7 P).length = some b ∧ D b = some k
def noFr (B : Bas) (P : Nat → Nat) : Prop := ∀ v, v < (FL B 7 P).length → frL B (FL B 7 P) v = false
def farX (B : Bas) (P : Nat → Nat) (ans st : Int32) : Prop := (6000 < (FL B 7 P).length ∧ ans = -1 ∧ st = 10) ∨ ((FL B 7 P).length ≤ 6000 ∧ noFr B P ∧ ans = -1 ∧ st = 11) ∨ ((FL B 7 P).length ≤ 6000 ∧ ∃ b k, bstX B P b k ∧ ans = nI k ∧ st = 0)
theorem bst_none {B : Bas} {P : Nat → Nat} {D : Nat → Option Nat} (hd : distOk (FL B 7 P).length (edL B (FL B 7 P) 7) (frL B (FL B 7 P)) D) : bestO D (FL B 7 P).length = none ↔ noFr B P := by
  rw [bestO_none]
  constructor
  · intro h v hv
    rw [← Bool.not_eq_true]
    intro z
    have := (hd.1 v hv).mpr z
    rw [h v hv] at this; cases this
  · intro h v hv
    cases e : D v with
    | none => rfl
    | some d =>
      obtain ⟨a, a1, a2⟩ := lvD_all hd.2.1 d v hv e 0 (Nat.zero_le _)
      have := (hd.1 a a1).mp a2
      rw [h a a1] at this; cases this
theorem bst_u {B : Bas} {P : Nat → Nat} {b k b₉ k₉ : Nat} (h1 : bstX B P b k) (h2 : bstX B P b₉ k₉) : b = b₉ ∧ k = k₉ := by
  obtain ⟨D, d1, d2, d3⟩ := h1
  obtain ⟨E, e1, e2, e3⟩ := h2
  have eq : ∀ u, u ≤ (FL B 7 P).length → bestO D u = bestO E u := by
    intro u
    induction u with
    | zero => intro _; rfl
    | succ u ih =>
      intro hu
      have a := dist_uniq d1 e1 (show u < (FL B 7 P).length by omega)
      have bs : ∀ D : Nat → Option Nat, bestO D (u + 1) = (match D u, bestO D u with
        | none, b => b
        | some _, none => some u
        | some k, some b => if dvO D b < k then some u else some b) := fun _ => rfl
      rw [bs D, bs E, a, ih (by omega)]
      cases E u with
      | none => rfl
      | some k =>
        cases x : bestO E u with
        | none => rfl
        | some b =>
          have := (bestO_lt x).1
          have z : dvO D b = dvO E b := by
            unfold dvO
            rw [dist_uniq d1 e1 (show b < (FL B 7 P).length by omega)]
          show (if dvO D b < k then some u else some b) = (if dvO E b < k then some u else some b)
          rw [z]
  have b1 := eq _ (Nat.le_refl _)
  rw [d2, e2] at b1
  cases b1
  have := dist_uniq d1 e1 (bestO_lt d2).1
  rw [d3, e3] at this
  cases this
  exact ⟨rfl, rfl⟩
theorem s_core3 {B : Bas} {P : Nat → Nat} {but : Option Nat} {k : Nat} {D : Nat → Option Nat} {f w hh n : Int32} {wl : Int64} {kk g a wd hg : Nat → Int32} {s lo hi : Nat → Int64} {sl fo di : Nat → Int32} (h : basOk B) (sx : srX B P 7 D f w hh n wl kk g a wd hg s lo hi sl fo di) (hk : isD B 7 P k) (hbut : ∀ b, but = some b → b < 12) (qd : Int32) (t : Int64) (p mv qu : Nat → Int32) (wy : Nat → Int64) :
    ∃ qd₉ t₉ p₉ mv₉ qu₉ wy₉, f_Search_plansWithout (oI but) f qd w hh n wl t kk p a wd hg s lo hi sl mv di qu wy = some (lN (capM (cntS B but k P)), qd₉, t₉, p₉, mv₉, qu₉, wy₉) := by
  obtain ⟨x1, x2, x3, x4, x5, x6, x7, x8, x9, x10, x11, x12⟩ := sx
  subst x5; subst x7; subst x8; subst x9
  obtain ⟨z0, z1⟩ := FL_0 (B := B) (most := 7) (P := P)
  obtain ⟨aD, bD⟩ := srX_isD (Or.inr rfl) x1 x2
  obtain ⟨qd₉, t₉, p₉, mv₉, qu₉, wy₉, e⟩ := s_plansWithout h x6 x11 x10 (clsd_7 x1 7 (Or.inr rfl)) aD x3 x4 hbut z0 (by rw [z1]; exact hk) qd t p mv qu wy
  rw [z1] at e
  exact ⟨qd₉, t₉, p₉, mv₉, qu₉, wy₉, e⟩
theorem capN (x : Nat) : ¬ lN (capM x) < 0 := by
  intro z
  have := capM_le x
  have := (pk_lLT (show capM x < 2 ^ 63 by omega) (show 0 < 2 ^ 63 by decide)).mp z
  omega
theorem s_all_11 {B : Bas} {P : Nat → Nat} {cw chh cn : Int32} {cwl ct : Int64} {ck cp cl cg ca cwd chg : Nat → Int32} {cs : Nat → Int64} (h : basOk B) (hP : stC B P) (hc : chX B P cw chh cn cwl ct ck cp cl cg ca cwd chg cs) {found : Int32} {slots for1 : Nat → Int32} (hs : schI found slots for1) (qd sp w0 h0 n0 : Int32) (wl0 t0 : Int64) (k0 p0 l0 g0 a0 wd0 hg0 : Nat → Int32) (s0 low high : Nat → Int64) (mv di qu : Nat → Int32) (wy : Nat → Int64) (status : Int32) :
    ∃ (ans : Int64) (st : Int32) (f₉ qd₉ sp₉ w₉ h₉ n₉ : Int32) (wl₉ t₉ : Int64) (k₉ p₉ l₉ g₉ a₉ wd₉ hg₉ : Nat → Int32) (s₉ lo₉ hi₉ : Nat → Int64) (sl₉ fo₉ mv₉ di₉ qu₉ : Nat → Int32) (wy₉ : Nat → Int64), f_BargeBasin_all_search11 status cw chh cn cwl ct ck cp cl cg ca cwd chg cs found qd sp w0 h0 n0 wl0 t0 k0 p0 l0 g0 a0 wd0 hg0 s0 low high slots for1 mv di qu wy = some (ans, st, f₉, qd₉, sp₉, w₉, h₉, n₉, wl₉, t₉, k₉, p₉, l₉, g₉, a₉, wd₉, hg₉, s₉, lo₉, hi₉, sl₉, fo₉, mv₉, di₉, qu₉, wy₉) ∧ schI f₉ sl₉ fo₉ ∧ allX B P ans st := by
  obtain ⟨r, f₉, qd₉, sp₉, w₉, h₉, n₉, wl₉, t₉, k₉, p₉, l₉, g₉, a₉, wd₉, hg₉, s₉, lo₉, hi₉, sl₉, fo₉, mv₉, di₉, qu₉, e, sc, q⟩ := s_fault11 (sg := false) (all := false) h hP hc (most := 7) rfl hs qd sp w0 h0 n0 wl0 t0 k0 p0 l0 g0 a0 wd0 hg0 s0 low high mv di qu
  rw [show bI false = (0 : Int32) from rfl] at e
  unfold f_BargeBasin_all_search11
  rw [ev_b _ e, un24_ap]
  rcases q with ⟨q1, q2⟩ | ⟨D, sx, q2⟩
  · subst q2
    rw [if_neg (show ¬ (10 : Int32) = 0 by decide)]
    exact ⟨_, _, _, _, _, _, _, _, _, _, _, _, _, _, _, _, _, _, _, _, _, _, _, _, _,  _, rfl, sc, -10, Or.inl ⟨q1, rfl⟩, Or.inl ⟨by decide, rfl, rfl⟩⟩
  · rcases s_core (sg := false) rfl sx.1 sx.2.1 q2 with ⟨z1, z2⟩ | ⟨z1, k, z2, -⟩
    · subst z1
      rw [if_neg (show ¬ (11 : Int32) = 0 by decide)]
      refine ⟨_, _, _, _, _, _, _, _, _, _, _, _, _, _, _, _, _, _, _, _, _, _, _, _, _,  _, rfl, sc, -11, Or.inr (Or.inl ⟨sx.1, ?_, rfl⟩), Or.inl ⟨by decide, rfl, rfl⟩⟩
      rcases z2 with ⟨y, -⟩ | ⟨-, y, -⟩ | ⟨-, _, _, -, -, -, -, -, y⟩
      · have := sx.1; omega
      · exact y
      · cases y
    · subst z1
      obtain ⟨qd2, t2, p2, mv2, qu2, wy2, e2⟩ := s_core3 (but := none) h sx z2 (fun b hb => by cases hb) qd₉ t₉ p₉ mv₉ qu₉ wy
      rw [if_pos rfl, ev_b _ (show f_BargeBasin_searcher_search11 = some () from rfl), un0_ap, ev_b _ (show f_Search_plansWithout (-1) f₉ qd₉ w₉ h₉ n₉ wl₉ t₉ k₉ p₉ a₉ wd₉ hg₉ s₉ lo₉ hi₉ sl₉ mv₉ di₉ qu₉ wy = _ from e2), un7_ap]
      simp only [cmpL]
      by_cases c : lN (capM (cntS B none k P)) < 4611686018427387904
      · rw [if_pos c]
        exact ⟨_, _, _, _, _, _, _, _, _, _, _, _, _, _, _, _, _, _, _, _, _, _, _, _, _,  _, rfl, sc, _, Or.inr (Or.inr ⟨sx.1, k, z2, rfl⟩), Or.inr (Or.inl ⟨capN _, c, rfl, rfl⟩)⟩
      · rw [if_neg c]
        exact ⟨_, _, _, _, _, _, _, _, _, _, _, _, _, _, _, _, _, _, _, _, _, _, _, _, _,  _, rfl, sc, _, Or.inr (Or.inr ⟨sx.1, k, z2, rfl⟩), Or.inr (Or.inr ⟨capN _, c, rfl, rfl⟩)⟩
theorem s_must_11 {B : Bas} {P : Nat → Nat} {b : Nat} {cw chh cn : Int32} {cwl ct : Int64} {ck cp cl cg ca cwd chg : Nat → Int32} {cs : Nat → Int64} (h : basOk B) (hP : stC B P) (hc : chX B P cw chh cn cwl ct ck cp cl cg ca cwd chg cs) (hb : b < bn B) {found : Int32} {slots for1 : Nat → Int32} (hs : schI found slots for1) (qd sp w0 h0 n0 : Int32) (wl0 t0 : Int64) (k0 p0 l0 g0 a0 wd0 hg0 : Nat → Int32) (s0 low high : Nat → Int64) (mv di qu : Nat → Int32) (wy : Nat → Int64) (status : Int32) :
    ∃ (ans st : Int32) (f₉ qd₉ sp₉ w₉ h₉ n₉ : Int32) (wl₉ t₉ : Int64) (k₉ p₉ l₉ g₉ a₉ wd₉ hg₉ : Nat → Int32) (s₉ lo₉ hi₉ : Nat → Int64) (sl₉ fo₉ mv₉ di₉ qu₉ : Nat → Int32) (wy₉ : Nat → Int64), f_BargeBasin_must_search11 (nI b) status cw chh cn cwl ct ck cp cl cg ca cwd chg cs found qd sp w0 h0 n0 wl0 t0 k0 p0 l0 g0 a0 wd0 hg0 s0 low high slots for1 mv di qu wy = some (ans, st, f₉, qd₉, sp₉, w₉, h₉, n₉, wl₉, t₉, k₉, p₉, l₉, g₉, a₉, wd₉, hg₉, s₉, lo₉, hi₉, sl₉, fo₉, mv₉, di₉, qu₉, wy₉) ∧ schI f₉ sl₉ fo₉ ∧ mustX B b P ans st := by
  have b12 : b < 12 := by have := h.2.2.2.2.1; omega
  obtain ⟨r, f₉, qd₉, sp₉, w₉, h₉, n₉, wl₉, t₉, k₉, p₉, l₉, g₉, a₉, wd₉, hg₉, s₉, lo₉, hi₉, sl₉, fo₉, mv₉, di₉, qu₉, e, sc, q⟩ := s_fault11 (sg := false) (all := false) h hP hc (most := 7) rfl hs qd sp w0 h0 n0 wl0 t0 k0 p0 l0 g0 a0 wd0 hg0 s0 low high mv di qu
  rw [show bI false = (0 : Int32) from rfl] at e
  have fb : f_BargeBasin_faultOfBarge (nI b) cw cn = some 0 := by
    unfold f_BargeBasin_faultOfBarge
    rw [show f_BargeBasin_hasNoBasin cw = some 0 by rw [hc.1]; exact noBas h, ev_b _ rfl, if_pos rfl, if_neg (nI_pos (by omega)), hc.2.2.1, if_pos (nI_lt hb (by have := h.2.2.2.2.1; omega))]
  unfold f_BargeBasin_must_search11 f_BargeBasin_must_search11_J17
  rw [ev_b _ fb, if_pos rfl, ev_b _ e, un24_ap]
  rcases q with ⟨q1, q2⟩ | ⟨D, sx, q2⟩
  · subst q2
    rw [if_neg (show ¬ (10 : Int32) = 0 by decide)]
    exact ⟨_, _, _, _, _, _, _, _, _, _, _, _, _, _, _, _, _, _, _, _, _, _, _, _, _,  _, rfl, sc, -10, Or.inl ⟨q1, rfl⟩, Or.inl ⟨by decide, rfl, rfl⟩⟩
  · rcases s_core (sg := false) rfl sx.1 sx.2.1 q2 with ⟨z1, z2⟩ | ⟨z1, k, z2, -⟩
    · subst z1
      rw [if_neg (show ¬ (11 : Int32) = 0 by decide)]
      refine ⟨_, _, _, _, _, _, _, _, _, _, _, _, _, _, _, _, _, _, _, _, _, _, _, _, _,  _, rfl, sc, -11, Or.inr (Or.inl ⟨sx.1, ?_, rfl⟩), Or.inl ⟨by decide, rfl, rfl⟩⟩
      rcases z2 with ⟨y, -⟩ | ⟨-, y, -⟩ | ⟨-, _, _, -, -, -, -, -, y⟩
      · have := sx.1; omega
      · exact y
      · cases y
    · subst z1
      obtain ⟨qd2, t2, p2, mv2, qu2, wy2, e2⟩ := s_core3 (but := some b) h sx z2 (fun c hc => by cases hc; exact b12) qd₉ t₉ p₉ mv₉ qu₉ wy
      rw [if_pos rfl, ev_b _ (show f_BargeBasin_searcher_search11 = some () from rfl), un0_ap, ev_b _ (show f_Search_plansWithout (nI b) f₉ qd₉ w₉ h₉ n₉ wl₉ t₉ k₉ p₉ a₉ wd₉ hg₉ s₉ lo₉ hi₉ sl₉ mv₉ di₉ qu₉ wy = _ from e2), un7_ap]
      simp only [cmpE]
      by_cases c : lN (capM (cntS B (some b) k P)) = 0
      · rw [if_pos c]
        exact ⟨_, _, _, _, _, _, _, _, _, _, _, _, _, _, _, _, _, _, _, _, _, _, _, _, _,  _, rfl, sc, _, Or.inr (Or.inr ⟨sx.1, k, z2, rfl⟩), Or.inr (Or.inl ⟨capN _, c, rfl, rfl⟩)⟩
      · rw [if_neg c]
        exact ⟨_, _, _, _, _, _, _, _, _, _, _, _, _, _, _, _, _, _, _, _, _, _, _, _, _,  _, rfl, sc, _, Or.inr (Or.inr ⟨sx.1, k, z2, rfl⟩), Or.inr (Or.inr ⟨capN _, c, rfl, rfl⟩)⟩
theorem s_far_11 {B : Bas} {P : Nat → Nat} {cw chh cn : Int32} {cwl ct : Int64} {ck cp cl cg ca cwd chg : Nat → Int32} {cs : Nat → Int64} (h : basOk B) (hP : stC B P) (hc : chX B P cw chh cn cwl ct ck cp cl cg ca cwd chg cs) {found : Int32} {slots for1 : Nat → Int32} (hs : schI found slots for1) (qd sp w0 h0 n0 : Int32) (wl0 t0 : Int64) (k0 p0 l0 g0 a0 wd0 hg0 : Nat → Int32) (s0 low high : Nat → Int64) (mv di qu : Nat → Int32) (status : Int32) :
    ∃ (ans st : Int32) (f₉ qd₉ sp₉ w₉ h₉ n₉ : Int32) (wl₉ t₉ : Int64) (k₉ p₉ l₉ g₉ a₉ wd₉ hg₉ : Nat → Int32) (s₉ lo₉ hi₉ : Nat → Int64) (sl₉ fo₉ mv₉ di₉ qu₉ : Nat → Int32), f_BargeBasin_far_search11 status cw chh cn cwl ct ck cp cl cg ca cwd chg cs found qd sp w0 h0 n0 wl0 t0 k0 p0 l0 g0 a0 wd0 hg0 s0 low high slots for1 mv di qu = some (ans, st, f₉, qd₉, sp₉, w₉, h₉, n₉, wl₉, t₉, k₉, p₉, l₉, g₉, a₉, wd₉, hg₉, s₉, lo₉, hi₉, sl₉, fo₉, mv₉, di₉, qu₉) ∧ schI f₉ sl₉ fo₉ ∧ farX B P ans st := by
  obtain ⟨r, f₉, qd₉, sp₉, w₉, h₉, n₉, wl₉, t₉, k₉, p₉, l₉, g₉, a₉, wd₉, hg₉, s₉, lo₉, hi₉, sl₉, fo₉, mv₉, di₉, qu₉, e, sc, q⟩ := s_fault11 (sg := false) (all := true) h hP hc (most := 7) rfl hs qd sp w0 h0 n0 wl0 t0 k0 p0 l0 g0 a0 wd0 hg0 s0 low high mv di qu
  rw [show bI false = (0 : Int32) from rfl, show bI true = (1 : Int32) from rfl] at e
  unfold f_BargeBasin_far_search11
  rw [ev_b _ e, un24_ap]
  rcases q with ⟨q1, q2⟩ | ⟨D, sx, q2⟩
  · subst q2
    rw [if_neg (show ¬ (10 : Int32) = 0 by decide)]
    exact ⟨_, _, _, _, _, _, _, _, _, _, _, _, _, _, _, _, _, _, _, _, _, _, _, _, _,  rfl, sc, Or.inl ⟨q1, rfl, rfl⟩⟩
  · have sx₉ := sx
    obtain ⟨x1, x2, x3, x4, x5, x6, x7, x8, x9, x10, x11, x12⟩ := sx₉
    cases eb : bestO D (FL B 7 P).length with
    | none =>
      have : r = 11 := by rw [q2]; simp [eb]
      subst this
      rw [if_neg (show ¬ (11 : Int32) = 0 by decide)]
      exact ⟨_, _, _, _, _, _, _, _, _, _, _, _, _, _, _, _, _, _, _, _, _, _, _, _, _,  rfl, sc, Or.inr (Or.inl ⟨x1, (bst_none x2).mp eb, rfl, rfl⟩)⟩
    | some b =>
      have : r = 0 := by rw [q2]; simp [eb]
      subst this
      have l := bestO_lt eb
      have ft := s_farthest x1 x3 (fun u k hu e => by have := x4 u k hu e; omega)
      rw [eb, show (some b).bind D = D b from rfl, some_dv l.2] at ft
      rw [← x5] at ft
      rw [if_pos rfl, ev_b _ (show f_BargeBasin_searcher_search11 = some () from rfl), un0_ap, ev_b _ ft]
      exact ⟨_, _, _, _, _, _, _, _, _, _, _, _, _, _, _, _, _, _, _, _, _, _, _, _, _,  rfl, sc, Or.inr (Or.inr ⟨x1, b, _, ⟨D, x2, eb, some_dv l.2⟩, rfl, rfl⟩)⟩
theorem s_go_11 {B : Bas} {P : Nat → Nat} {cw chh cn : Int32} {cwl ct : Int64} {ck cp cl cg ca cwd chg : Nat → Int32} {cs : Nat → Int64} (h : basOk B) (hP : stC B P) (hc : chX B P cw chh cn cwl ct ck cp cl cg ca cwd chg cs) {found : Int32} {slots for1 : Nat → Int32} (hs : schI found slots for1) (qd sp w0 h0 n0 : Int32) (wl0 t0 : Int64) (k0 p0 l0 g0 a0 wd0 hg0 : Nat → Int32) (s0 low high : Nat → Int64) (mv di qu : Nat → Int32) (status ld lu : Int32) :
    ∃ (ans st : Int32) (ct₉ : Int64) (cp₉ : Nat → Int32) (ld₉ lu₉ : Int32) (f₉ qd₉ sp₉ w₉ h₉ n₉ : Int32) (wl₉ t₉ : Int64) (k₉ p₉ l₉ g₉ a₉ wd₉ hg₉ : Nat → Int32) (s₉ lo₉ hi₉ : Nat → Int64) (sl₉ fo₉ mv₉ di₉ qu₉ : Nat → Int32), f_BargeBasin_go_search11 status cw chh cn cwl ct ck cp cl cg ca cwd chg cs ld lu found qd sp w0 h0 n0 wl0 t0 k0 p0 l0 g0 a0 wd0 hg0 s0 low high slots for1 mv di qu = some (ans, st, ct₉, cp₉, ld₉, lu₉, f₉, qd₉, sp₉, w₉, h₉, n₉, wl₉, t₉, k₉, p₉, l₉, g₉, a₉, wd₉, hg₉, s₉, lo₉, hi₉, sl₉, fo₉, mv₉, di₉, qu₉) ∧ schI f₉ sl₉ fo₉ ∧
      ((∃ st0, farX B P (-1) st0 ∧ st0 ≠ 0 ∧ ans = 0 ∧ st = st0 ∧ ct₉ = ct ∧ cp₉ = cp ∧ ld₉ = ld ∧ lu₉ = lu) ∨ ((FL B 7 P).length ≤ 6000 ∧ ∃ b k, bstX B P b k ∧ ans = 1 ∧ st = 0 ∧ ld₉ = 0 ∧ lu₉ = 0 ∧ chT B (gt (FL B 7 P) b) ct₉ ∧ chP B (gt (FL B 7 P) b) cp₉)) := by
  obtain ⟨r, f₉, qd₉, sp₉, w₉, h₉, n₉, wl₉, t₉, k₉, p₉, l₉, g₉, a₉, wd₉, hg₉, s₉, lo₉, hi₉, sl₉, fo₉, mv₉, di₉, qu₉, e, sc, q⟩ := s_fault11 (sg := false) (all := true) h hP hc (most := 7) rfl hs qd sp w0 h0 n0 wl0 t0 k0 p0 l0 g0 a0 wd0 hg0 s0 low high mv di qu
  rw [show bI false = (0 : Int32) from rfl, show bI true = (1 : Int32) from rfl] at e
  unfold f_BargeBasin_go_search11
  rw [ev_b _ e, un24_ap]
  rcases q with ⟨q1, q2⟩ | ⟨D, sx, q2⟩
  · subst q2
    rw [if_neg (show ¬ (10 : Int32) = 0 by decide)]
    exact ⟨_, _, _, _, _, _, _, _, _, _, _, _, _, _, _, _, _, _, _, _, _, _, _, _, _, _, _, _, _,  rfl, sc, Or.inl ⟨10, Or.inl ⟨q1, rfl, rfl⟩, by decide, rfl, rfl, rfl, rfl, rfl, rfl⟩⟩
  · have sx₉ := sx
    obtain ⟨x1, x2, x3, x4, x5, x6, x7, x8, x9, x10, x11, x12⟩ := sx₉
    cases eb : bestO D (FL B 7 P).length with
    | none =>
      have : r = 11 := by rw [q2]; simp [eb]
      subst this
      rw [if_neg (show ¬ (11 : Int32) = 0 by decide)]
      exact ⟨_, _, _, _, _, _, _, _, _, _, _, _, _, _, _, _, _, _, _, _, _, _, _, _, _, _, _, _, _,  rfl, sc, Or.inl ⟨11, Or.inr (Or.inl ⟨x1, (bst_none x2).mp eb, rfl, rfl⟩), by decide, rfl, rfl, rfl, rfl, rfl, rfl⟩⟩
    | some b =>
      have : r = 0 := by rw [q2]; simp [eb]
      subst this
      have l := bestO_lt eb
      have hd := s_hardest x1 x3 (fun u k hu e => by have := x4 u k hu e; omega)
      rw [eb] at hd
      rw [← x5] at hd
      obtain ⟨o1, o2⟩ := x6.2.2.1 b l.1
      obtain ⟨ct2, cp2, e2, y1, y2⟩ := s_layOut h (x6.2.1 _ (List.getElem_mem l.1)) hc.2.2.2.2.2.1 l.1 x1 o1 o2 ct cp
      rw [← x5, ← hc.2.2.1] at e2
      rw [if_pos rfl, ev_b _ (show f_BargeBasin_searcher_search11 = some () from rfl), un0_ap, ev_b _ hd, ev_b _ (show f_Search_layOut (oI (some b)) f₉ lo₉ hi₉ cn ct cp cs = _ from e2), un2_ap]
      refine ⟨_, _, _, _, _, _, _, _, _, _, _, _, _, _, _, _, _, _, _, _, _, _, _, _, _, _, _, _, _,  rfl, sc, Or.inr ⟨x1, b, _, ⟨D, x2, eb, some_dv l.2⟩, rfl, rfl, rfl, rfl, ?_, ?_⟩⟩
      · rw [gt_at l.1]; exact y1
      · rw [gt_at l.1]; exact y2
theorem s_all_01 {B : Bas} {P : Nat → Nat} {cw chh cn : Int32} {cwl ct : Int64} {ck cp cl cg ca cwd chg : Nat → Int32} {cs : Nat → Int64} (h : basOk B) (hP : stC B P) (hc : chX B P cw chh cn cwl ct ck cp cl cg ca cwd chg cs) (status : Int32) :
    ∃ (ans : Int64) (st : Int32) (f₉ qd₉ sp₉ w₉ h₉ n₉ : Int32) (wl₉ t₉ : Int64) (k₉ p₉ l₉ g₉ a₉ wd₉ hg₉ : Nat → Int32) (s₉ lo₉ hi₉ : Nat → Int64) (sl₉ fo₉ mv₉ di₉ qu₉ : Nat → Int32) (wy₉ : Nat → Int64), f_BargeBasin_all_search01 status cw chh cn cwl ct ck cp cl cg ca cwd chg cs = some (ans, st, f₉, qd₉, sp₉, w₉, h₉, n₉, wl₉, t₉, k₉, p₉, l₉, g₉, a₉, wd₉, hg₉, s₉, lo₉, hi₉, sl₉, fo₉, mv₉, di₉, qu₉, wy₉) ∧ schI f₉ sl₉ fo₉ ∧ allX B P ans st := by
  obtain ⟨r, f₉, qd₉, sp₉, w₉, h₉, n₉, wl₉, t₉, k₉, p₉, l₉, g₉, a₉, wd₉, hg₉, s₉, lo₉, hi₉, sl₉, fo₉, mv₉, di₉, qu₉, e, sc, q⟩ := s_fault11 (sg := false) (all := false) h hP hc (most := 7) rfl schI_0 0 0 0 0 0 0 0 (fun _ => 0) (fun _ => 0) (fun _ => 0) (fun _ => 0) (fun _ => 0) (fun _ => 0) (fun _ => 0) (fun _ => 0) (fun _ => 0) (fun _ => 0) (fun _ => 0) (fun _ => 0) (fun _ => 0)
  rw [show bI false = (0 : Int32) from rfl] at e
  unfold f_BargeBasin_all_search01
  rw [s_fault01 (by rw [hc.1]; exact noBas h), ev_b _ e, un24_ap]
  rcases q with ⟨q1, q2⟩ | ⟨D, sx, q2⟩
  · subst q2
    rw [if_neg (show ¬ (10 : Int32) = 0 by decide)]
    exact ⟨_, _, _, _, _, _, _, _, _, _, _, _, _, _, _, _, _, _, _, _, _, _, _, _, _,  _, rfl, sc, -10, Or.inl ⟨q1, rfl⟩, Or.inl ⟨by decide, rfl, rfl⟩⟩
  · rcases s_core (sg := false) rfl sx.1 sx.2.1 q2 with ⟨z1, z2⟩ | ⟨z1, k, z2, -⟩
    · subst z1
      rw [if_neg (show ¬ (11 : Int32) = 0 by decide)]
      refine ⟨_, _, _, _, _, _, _, _, _, _, _, _, _, _, _, _, _, _, _, _, _, _, _, _, _,  _, rfl, sc, -11, Or.inr (Or.inl ⟨sx.1, ?_, rfl⟩), Or.inl ⟨by decide, rfl, rfl⟩⟩
      rcases z2 with ⟨y, -⟩ | ⟨-, y, -⟩ | ⟨-, _, _, -, -, -, -, -, y⟩
      · have := sx.1; omega
      · exact y
      · cases y
    · subst z1
      obtain ⟨qd2, t2, p2, mv2, qu2, wy2, e2⟩ := s_core3 (but := none) h sx z2 (fun b hb => by cases hb) qd₉ t₉ p₉ mv₉ qu₉ (fun _ => 0)
      rw [if_pos rfl, ev_b _ (show f_BargeBasin_searcher_search11 = some () from rfl), un0_ap, ev_b _ (show f_Search_plansWithout (-1) f₉ qd₉ w₉ h₉ n₉ wl₉ t₉ k₉ p₉ a₉ wd₉ hg₉ s₉ lo₉ hi₉ sl₉ mv₉ di₉ qu₉ (fun _ => 0) = _ from e2), un7_ap]
      simp only [cmpL]
      by_cases c : lN (capM (cntS B none k P)) < 4611686018427387904
      · rw [if_pos c]
        exact ⟨_, _, _, _, _, _, _, _, _, _, _, _, _, _, _, _, _, _, _, _, _, _, _, _, _,  _, rfl, sc, _, Or.inr (Or.inr ⟨sx.1, k, z2, rfl⟩), Or.inr (Or.inl ⟨capN _, c, rfl, rfl⟩)⟩
      · rw [if_neg c]
        exact ⟨_, _, _, _, _, _, _, _, _, _, _, _, _, _, _, _, _, _, _, _, _, _, _, _, _,  _, rfl, sc, _, Or.inr (Or.inr ⟨sx.1, k, z2, rfl⟩), Or.inr (Or.inr ⟨capN _, c, rfl, rfl⟩)⟩
theorem s_must_01 {B : Bas} {P : Nat → Nat} {b : Nat} {cw chh cn : Int32} {cwl ct : Int64} {ck cp cl cg ca cwd chg : Nat → Int32} {cs : Nat → Int64} (h : basOk B) (hP : stC B P) (hc : chX B P cw chh cn cwl ct ck cp cl cg ca cwd chg cs) (hb : b < bn B) (status : Int32) :
    ∃ (ans st : Int32) (f₉ qd₉ sp₉ w₉ h₉ n₉ : Int32) (wl₉ t₉ : Int64) (k₉ p₉ l₉ g₉ a₉ wd₉ hg₉ : Nat → Int32) (s₉ lo₉ hi₉ : Nat → Int64) (sl₉ fo₉ mv₉ di₉ qu₉ : Nat → Int32) (wy₉ : Nat → Int64), f_BargeBasin_must_search01 (nI b) status cw chh cn cwl ct ck cp cl cg ca cwd chg cs = some (ans, st, f₉, qd₉, sp₉, w₉, h₉, n₉, wl₉, t₉, k₉, p₉, l₉, g₉, a₉, wd₉, hg₉, s₉, lo₉, hi₉, sl₉, fo₉, mv₉, di₉, qu₉, wy₉) ∧ schI f₉ sl₉ fo₉ ∧ mustX B b P ans st := by
  have b12 : b < 12 := by have := h.2.2.2.2.1; omega
  obtain ⟨r, f₉, qd₉, sp₉, w₉, h₉, n₉, wl₉, t₉, k₉, p₉, l₉, g₉, a₉, wd₉, hg₉, s₉, lo₉, hi₉, sl₉, fo₉, mv₉, di₉, qu₉, e, sc, q⟩ := s_fault11 (sg := false) (all := false) h hP hc (most := 7) rfl schI_0 0 0 0 0 0 0 0 (fun _ => 0) (fun _ => 0) (fun _ => 0) (fun _ => 0) (fun _ => 0) (fun _ => 0) (fun _ => 0) (fun _ => 0) (fun _ => 0) (fun _ => 0) (fun _ => 0) (fun _ => 0) (fun _ => 0)
  rw [show bI false = (0 : Int32) from rfl] at e
  have fb : f_BargeBasin_faultOfBarge (nI b) cw cn = some 0 := by
    unfold f_BargeBasin_faultOfBarge
    rw [show f_BargeBasin_hasNoBasin cw = some 0 by rw [hc.1]; exact noBas h, ev_b _ rfl, if_pos rfl, if_neg (nI_pos (by omega)), hc.2.2.1, if_pos (nI_lt hb (by have := h.2.2.2.2.1; omega))]
  unfold f_BargeBasin_must_search01
  rw [ev_b _ fb, if_pos rfl, s_fault01 (by rw [hc.1]; exact noBas h), ev_b _ e, un24_ap]
  rcases q with ⟨q1, q2⟩ | ⟨D, sx, q2⟩
  · subst q2
    rw [if_neg (show ¬ (10 : Int32) = 0 by decide)]
    exact ⟨_, _, _, _, _, _, _, _, _, _, _, _, _, _, _, _, _, _, _, _, _, _, _, _, _,  _, rfl, sc, -10, Or.inl ⟨q1, rfl⟩, Or.inl ⟨by decide, rfl, rfl⟩⟩
  · rcases s_core (sg := false) rfl sx.1 sx.2.1 q2 with ⟨z1, z2⟩ | ⟨z1, k, z2, -⟩
    · subst z1
      rw [if_neg (show ¬ (11 : Int32) = 0 by decide)]
      refine ⟨_, _, _, _, _, _, _, _, _, _, _, _, _, _, _, _, _, _, _, _, _, _, _, _, _,  _, rfl, sc, -11, Or.inr (Or.inl ⟨sx.1, ?_, rfl⟩), Or.inl ⟨by decide, rfl, rfl⟩⟩
      rcases z2 with ⟨y, -⟩ | ⟨-, y, -⟩ | ⟨-, _, _, -, -, -, -, -, y⟩
      · have := sx.1; omega
      · exact y
      · cases y
    · subst z1
      obtain ⟨qd2, t2, p2, mv2, qu2, wy2, e2⟩ := s_core3 (but := some b) h sx z2 (fun c hc => by cases hc; exact b12) qd₉ t₉ p₉ mv₉ qu₉ (fun _ => 0)
      rw [if_pos rfl, ev_b _ (show f_BargeBasin_searcher_search11 = some () from rfl), un0_ap, ev_b _ (show f_Search_plansWithout (nI b) f₉ qd₉ w₉ h₉ n₉ wl₉ t₉ k₉ p₉ a₉ wd₉ hg₉ s₉ lo₉ hi₉ sl₉ mv₉ di₉ qu₉ (fun _ => 0) = _ from e2), un7_ap]
      simp only [cmpE]
      by_cases c : lN (capM (cntS B (some b) k P)) = 0
      · rw [if_pos c]
        exact ⟨_, _, _, _, _, _, _, _, _, _, _, _, _, _, _, _, _, _, _, _, _, _, _, _, _,  _, rfl, sc, _, Or.inr (Or.inr ⟨sx.1, k, z2, rfl⟩), Or.inr (Or.inl ⟨capN _, c, rfl, rfl⟩)⟩
      · rw [if_neg c]
        exact ⟨_, _, _, _, _, _, _, _, _, _, _, _, _, _, _, _, _, _, _, _, _, _, _, _, _,  _, rfl, sc, _, Or.inr (Or.inr ⟨sx.1, k, z2, rfl⟩), Or.inr (Or.inr ⟨capN _, c, rfl, rfl⟩)⟩
theorem s_far_01 {B : Bas} {P : Nat → Nat} {cw chh cn : Int32} {cwl ct : Int64} {ck cp cl cg ca cwd chg : Nat → Int32} {cs : Nat → Int64} (h : basOk B) (hP : stC B P) (hc : chX B P cw chh cn cwl ct ck cp cl cg ca cwd chg cs) (status : Int32) :
    ∃ (ans st : Int32) (f₉ qd₉ sp₉ w₉ h₉ n₉ : Int32) (wl₉ t₉ : Int64) (k₉ p₉ l₉ g₉ a₉ wd₉ hg₉ : Nat → Int32) (s₉ lo₉ hi₉ : Nat → Int64) (sl₉ fo₉ mv₉ di₉ qu₉ : Nat → Int32), f_BargeBasin_far_search01 status cw chh cn cwl ct ck cp cl cg ca cwd chg cs = some (ans, st, f₉, qd₉, sp₉, w₉, h₉, n₉, wl₉, t₉, k₉, p₉, l₉, g₉, a₉, wd₉, hg₉, s₉, lo₉, hi₉, sl₉, fo₉, mv₉, di₉, qu₉) ∧ schI f₉ sl₉ fo₉ ∧ farX B P ans st := by
  obtain ⟨r, f₉, qd₉, sp₉, w₉, h₉, n₉, wl₉, t₉, k₉, p₉, l₉, g₉, a₉, wd₉, hg₉, s₉, lo₉, hi₉, sl₉, fo₉, mv₉, di₉, qu₉, e, sc, q⟩ := s_fault11 (sg := false) (all := true) h hP hc (most := 7) rfl schI_0 0 0 0 0 0 0 0 (fun _ => 0) (fun _ => 0) (fun _ => 0) (fun _ => 0) (fun _ => 0) (fun _ => 0) (fun _ => 0) (fun _ => 0) (fun _ => 0) (fun _ => 0) (fun _ => 0) (fun _ => 0) (fun _ => 0)
  rw [show bI false = (0 : Int32) from rfl, show bI true = (1 : Int32) from rfl] at e
  unfold f_BargeBasin_far_search01
  rw [s_fault01 (by rw [hc.1]; exact noBas h), ev_b _ e, un24_ap]
  rcases q with ⟨q1, q2⟩ | ⟨D, sx, q2⟩
  · subst q2
    rw [if_neg (show ¬ (10 : Int32) = 0 by decide)]
    exact ⟨_, _, _, _, _, _, _, _, _, _, _, _, _, _, _, _, _, _, _, _, _, _, _, _, _,  rfl, sc, Or.inl ⟨q1, rfl, rfl⟩⟩
  · have sx₉ := sx
    obtain ⟨x1, x2, x3, x4, x5, x6, x7, x8, x9, x10, x11, x12⟩ := sx₉
    cases eb : bestO D (FL B 7 P).length with
    | none =>
      have : r = 11 := by rw [q2]; simp [eb]
      subst this
      rw [if_neg (show ¬ (11 : Int32) = 0 by decide)]
      exact ⟨_, _, _, _, _, _, _, _, _, _, _, _, _, _, _, _, _, _, _, _, _, _, _, _, _,  rfl, sc, Or.inr (Or.inl ⟨x1, (bst_none x2).mp eb, rfl, rfl⟩)⟩
    | some b =>
      have : r = 0 := by rw [q2]; simp [eb]
      subst this
      have l := bestO_lt eb
      have ft := s_farthest x1 x3 (fun u k hu e => by have := x4 u k hu e; omega)
      rw [eb, show (some b).bind D = D b from rfl, some_dv l.2] at ft
      rw [← x5] at ft
      rw [if_pos rfl, ev_b _ (show f_BargeBasin_searcher_search11 = some () from rfl), un0_ap, ev_b _ ft]
      exact ⟨_, _, _, _, _, _, _, _, _, _, _, _, _, _, _, _, _, _, _, _, _, _, _, _, _,  rfl, sc, Or.inr (Or.inr ⟨x1, b, _, ⟨D, x2, eb, some_dv l.2⟩, rfl, rfl⟩)⟩
theorem s_go_01 {B : Bas} {P : Nat → Nat} {cw chh cn : Int32} {cwl ct : Int64} {ck cp cl cg ca cwd chg : Nat → Int32} {cs : Nat → Int64} (h : basOk B) (hP : stC B P) (hc : chX B P cw chh cn cwl ct ck cp cl cg ca cwd chg cs) (status ld lu : Int32) :
    ∃ (ans st : Int32) (ct₉ : Int64) (cp₉ : Nat → Int32) (ld₉ lu₉ : Int32) (f₉ qd₉ sp₉ w₉ h₉ n₉ : Int32) (wl₉ t₉ : Int64) (k₉ p₉ l₉ g₉ a₉ wd₉ hg₉ : Nat → Int32) (s₉ lo₉ hi₉ : Nat → Int64) (sl₉ fo₉ mv₉ di₉ qu₉ : Nat → Int32), f_BargeBasin_go_search01 status cw chh cn cwl ct ck cp cl cg ca cwd chg cs ld lu = some (ans, st, ct₉, cp₉, ld₉, lu₉, f₉, qd₉, sp₉, w₉, h₉, n₉, wl₉, t₉, k₉, p₉, l₉, g₉, a₉, wd₉, hg₉, s₉, lo₉, hi₉, sl₉, fo₉, mv₉, di₉, qu₉) ∧ schI f₉ sl₉ fo₉ ∧
      ((∃ st0, farX B P (-1) st0 ∧ st0 ≠ 0 ∧ ans = 0 ∧ st = st0 ∧ ct₉ = ct ∧ cp₉ = cp ∧ ld₉ = ld ∧ lu₉ = lu) ∨ ((FL B 7 P).length ≤ 6000 ∧ ∃ b k, bstX B P b k ∧ ans = 1 ∧ st = 0 ∧ ld₉ = 0 ∧ lu₉ = 0 ∧ chT B (gt (FL B 7 P) b) ct₉ ∧ chP B (gt (FL B 7 P) b) cp₉)) := by
  obtain ⟨r, f₉, qd₉, sp₉, w₉, h₉, n₉, wl₉, t₉, k₉, p₉, l₉, g₉, a₉, wd₉, hg₉, s₉, lo₉, hi₉, sl₉, fo₉, mv₉, di₉, qu₉, e, sc, q⟩ := s_fault11 (sg := false) (all := true) h hP hc (most := 7) rfl schI_0 0 0 0 0 0 0 0 (fun _ => 0) (fun _ => 0) (fun _ => 0) (fun _ => 0) (fun _ => 0) (fun _ => 0) (fun _ => 0) (fun _ => 0) (fun _ => 0) (fun _ => 0) (fun _ => 0) (fun _ => 0) (fun _ => 0)
  rw [show bI false = (0 : Int32) from rfl, show bI true = (1 : Int32) from rfl] at e
  unfold f_BargeBasin_go_search01
  rw [s_fault01 (by rw [hc.1]; exact noBas h), ev_b _ e, un24_ap]
  rcases q with ⟨q1, q2⟩ | ⟨D, sx, q2⟩
  · subst q2
    rw [if_neg (show ¬ (10 : Int32) = 0 by decide)]
    exact ⟨_, _, _, _, _, _, _, _, _, _, _, _, _, _, _, _, _, _, _, _, _, _, _, _, _, _, _, _, _,  rfl, sc, Or.inl ⟨10, Or.inl ⟨q1, rfl, rfl⟩, by decide, rfl, rfl, rfl, rfl, rfl, rfl⟩⟩
  · have sx₉ := sx
    obtain ⟨x1, x2, x3, x4, x5, x6, x7, x8, x9, x10, x11, x12⟩ := sx₉
    cases eb : bestO D (FL B 7 P).length with
    | none =>
      have : r = 11 := by rw [q2]; simp [eb]
      subst this
      rw [if_neg (show ¬ (11 : Int32) = 0 by decide)]
      exact ⟨_, _, _, _, _, _, _, _, _, _, _, _, _, _, _, _, _, _, _, _, _, _, _, _, _, _, _, _, _,  rfl, sc, Or.inl ⟨11, Or.inr (Or.inl ⟨x1, (bst_none x2).mp eb, rfl, rfl⟩), by decide, rfl, rfl, rfl, rfl, rfl, rfl⟩⟩
    | some b =>
      have : r = 0 := by rw [q2]; simp [eb]
      subst this
      have l := bestO_lt eb
      have hd := s_hardest x1 x3 (fun u k hu e => by have := x4 u k hu e; omega)
      rw [eb] at hd
      rw [← x5] at hd
      obtain ⟨o1, o2⟩ := x6.2.2.1 b l.1
      obtain ⟨ct2, cp2, e2, y1, y2⟩ := s_layOut h (x6.2.1 _ (List.getElem_mem l.1)) hc.2.2.2.2.2.1 l.1 x1 o1 o2 ct cp
      rw [← x5, ← hc.2.2.1] at e2
      rw [if_pos rfl, ev_b _ (show f_BargeBasin_searcher_search11 = some () from rfl), un0_ap, ev_b _ hd, ev_b _ (show f_Search_layOut (oI (some b)) f₉ lo₉ hi₉ cn ct cp cs = _ from e2), un2_ap]
      refine ⟨_, _, _, _, _, _, _, _, _, _, _, _, _, _, _, _, _, _, _, _, _, _, _, _, _, _, _, _, _,  rfl, sc, Or.inr ⟨x1, b, _, ⟨D, x2, eb, some_dv l.2⟩, rfl, rfl, rfl, rfl, ?_, ?_⟩⟩
      · rw [gt_at l.1]; exact y1
      · rw [gt_at l.1]; exact y2
theorem s_reach_11 {B : Bas} {P : Nat → Nat} {cw chh cn : Int32} {cwl ct : Int64} {ck cp cl cg ca cwd chg : Nat → Int32} {cs : Nat → Int64} (h : basOk B) (hP : stC B P) (hc : chX B P cw chh cn cwl ct ck cp cl cg ca cwd chg cs) {found : Int32} {slots for1 : Nat → Int32} (hs : schI found slots for1) (sp w0 h0 n0 : Int32) (wl0 t0 : Int64) (k0 p0 l0 g0 a0 wd0 hg0 : Nat → Int32) (s0 low high : Nat → Int64) (mv : Nat → Int32) (status : Int32) :
    ∃ (ans st : Int32) (f₉ sp₉ w₉ h₉ n₉ : Int32) (wl₉ t₉ : Int64) (k₉ p₉ l₉ g₉ a₉ wd₉ hg₉ : Nat → Int32) (s₉ lo₉ hi₉ : Nat → Int64) (sl₉ fo₉ mv₉ : Nat → Int32), f_BargeBasin_reach_search11 status cw chh cn cwl ct ck cp cl cg ca cwd chg cs found sp w0 h0 n0 wl0 t0 k0 p0 l0 g0 a0 wd0 hg0 s0 low high slots for1 mv = some (ans, st, f₉, sp₉, w₉, h₉, n₉, wl₉, t₉, k₉, p₉, l₉, g₉, a₉, wd₉, hg₉, s₉, lo₉, hi₉, sl₉, fo₉, mv₉) ∧ schI f₉ sl₉ fo₉ ∧ reachX B P ans st := by
  obtain ⟨f1, sp1, t1, k1, p1, l1, g1, a1, wd1, hg1, s1, lo1, hi1, sl1, fo1, mv1, e1, cb, cg1, x1⟩ := s_explore h hP hc hs sp w0 h0 n0 wl0 t0 k0 p0 l0 g0 a0 wd0 hg0 s0 low high mv
  have sc := exS_sch x1
  unfold f_BargeBasin_reach_search11
  rw [show f_BargeBasin_hasNoBasin cw = some 0 by rw [hc.1]; exact noBas h, ev_b _ rfl, if_pos rfl, ev_b _ (show f_BargeBasin_searcher_search11 = some () from rfl), un0_ap, ev_b _ e1, un21_ap]
  by_cases c : (FL B 7 P).length ≤ 6000
  · rw [decide_eq_true c, if_neg (show ¬ bI true = 0 by decide)]
    refine ⟨_, _, _, _, _, _, _, _, _, _, _, _, _, _, _, _, _, _, _, _, _, _,  rfl, sc, Or.inl ⟨c, ?_, rfl⟩⟩
    rcases x1 with ⟨-, y2, -⟩ | ⟨-, y2, -⟩
    · exact y2
    · omega
  · rw [decide_eq_false c, if_pos (show bI false = 0 by decide)]
    exact ⟨_, _, _, _, _, _, _, _, _, _, _, _, _, _, _, _, _, _, _, _, _, _,  rfl, sc, Or.inr ⟨by omega, rfl, rfl⟩⟩
end
section
/-! fewest, fewestSteps, all, must, reach, far, go of the reference, where there is a basin: printed by gen78.py. -/
theorem m_fewest {B : Bas} {P : Nat → Nat} {kwl kk kat ks ky kg : Nat → Int32} (h : basOk B) (hP : stC B P) (hr : rfB B kk ks ky) (hwl : rfW B kwl) (hp : chP B P kat) (hg : chG B kg) (st0 th0 khp kpm sn0 ed0 : Int32) (pb pw ps kpl khd kch kdp kpr kbb kby kbs kfe ked keb kwho kh : Nat → Int32) :
    ∃ (ans st khp₉ kpm₉ sn₉ ed₉ : Int32) (pb₉ pw₉ ps₉ kpl₉ khd₉ kch₉ kdp₉ kpr₉ kbb₉ kby₉ kbs₉ kfe₉ ked₉ keb₉ kwho₉ kh₉ : Nat → Int32) (new : Option (List Nat)), f_BargeBasinModel_fewest st0 th0 1 (nI (bw B)) (nI (bh B)) (nI (bn B)) khp kpm sn0 ed0 kwl kk kat ks ky kg pb pw ps kpl khd kch kdp kpr kbb kby kbs kfe ked keb kwho kh = some (ans, st, 0, khp₉, kpm₉, sn₉, ed₉, pb₉, pw₉, ps₉, kpl₉, khd₉, kch₉, kdp₉, kpr₉, kbb₉, kby₉, kbs₉, kfe₉, ked₉, keb₉, kwho₉, kh₉) ∧
      plX B 7 P ans st new ∧ (new = none → khp₉ = khp ∧ kpm₉ = kpm ∧ pb₉ = pb ∧ pw₉ = pw ∧ ps₉ = ps) ∧ (∀ cs, new = some cs → khp₉ = 1 ∧ kpm₉ = nI cs.length ∧ cs.length ≤ 6000 ∧ plW cs pb₉ pw₉ ps₉) := by
  obtain ⟨ans, st, khp₉, kpm₉, sn₉, ed₉, pb₉, pw₉, ps₉, b1, b2, b3, b4, b5, b6, b7, b8, b9, b10, b11, b12, b13, new, e, q⟩ := m_plan (sg := false) h hP hr hwl hp hg rfl khp kpm sn0 ed0 pb pw ps kpl khd kch kdp kpr kbb kby kbs kfe ked keb kwho kh
  rw [show bI false = (0 : Int32) from rfl] at e
  refine ⟨ans, st, khp₉, kpm₉, sn₉, ed₉, pb₉, pw₉, ps₉, b1, b2, b3, b4, b5, b6, b7, b8, b9, b10, b11, b12, b13, new, ?_, q⟩
  unfold f_BargeBasinModel_fewest
  rw [if_neg (show ¬ (1 : Int32) = 0 by decide), ev_b _ e, un22_ap]
theorem m_fewestSteps {B : Bas} {P : Nat → Nat} {kwl kk kat ks ky kg : Nat → Int32} (h : basOk B) (hP : stC B P) (hr : rfB B kk ks ky) (hwl : rfW B kwl) (hp : chP B P kat) (hg : chG B kg) (st0 th0 khp kpm sn0 ed0 : Int32) (pb pw ps kpl khd kch kdp kpr kbb kby kbs kfe ked keb kwho kh : Nat → Int32) :
    ∃ (ans st khp₉ kpm₉ sn₉ ed₉ : Int32) (pb₉ pw₉ ps₉ kpl₉ khd₉ kch₉ kdp₉ kpr₉ kbb₉ kby₉ kbs₉ kfe₉ ked₉ keb₉ kwho₉ kh₉ : Nat → Int32) (new : Option (List Nat)), f_BargeBasinModel_fewestSteps st0 th0 1 (nI (bw B)) (nI (bh B)) (nI (bn B)) khp kpm sn0 ed0 kwl kk kat ks ky kg pb pw ps kpl khd kch kdp kpr kbb kby kbs kfe ked keb kwho kh = some (ans, st, 0, khp₉, kpm₉, sn₉, ed₉, pb₉, pw₉, ps₉, kpl₉, khd₉, kch₉, kdp₉, kpr₉, kbb₉, kby₉, kbs₉, kfe₉, ked₉, keb₉, kwho₉, kh₉) ∧
      plX B 1 P ans st new ∧ (new = none → khp₉ = khp ∧ kpm₉ = kpm ∧ pb₉ = pb ∧ pw₉ = pw ∧ ps₉ = ps) ∧ (∀ cs, new = some cs → khp₉ = 1 ∧ kpm₉ = nI cs.length ∧ cs.length ≤ 6000 ∧ plW cs pb₉ pw₉ ps₉) := by
  obtain ⟨ans, st, khp₉, kpm₉, sn₉, ed₉, pb₉, pw₉, ps₉, b1, b2, b3, b4, b5, b6, b7, b8, b9, b10, b11, b12, b13, new, e, q⟩ := m_plan (sg := true) h hP hr hwl hp hg rfl khp kpm sn0 ed0 pb pw ps kpl khd kch kdp kpr kbb kby kbs kfe ked keb kwho kh
  rw [show bI true = (1 : Int32) from rfl] at e
  refine ⟨ans, st, khp₉, kpm₉, sn₉, ed₉, pb₉, pw₉, ps₉, b1, b2, b3, b4, b5, b6, b7, b8, b9, b10, b11, b12, b13, new, ?_, q⟩
  unfold f_BargeBasinModel_fewestSteps
  rw [if_neg (show ¬ (1 : Int32) = 0 by decide), ev_b _ e, un22_ap]
theorem m_all {B : Bas} {P : Nat → Nat} {kwl kk kat ks ky kg : Nat → Int32} (h : basOk B) (hP : stC B P) (hr : rfB B kk ks ky) (hwl : rfW B kwl) (hp : chP B P kat) (hg : chG B kg) (st0 th0 sn0 ed0 : Int32) (kpl khd kch kdp kpr kbb kby kbs kfe ked keb : Nat → Int32) (kc : Nat → Int64) (kwho kh : Nat → Int32) :
    ∃ (ans : Int64) (st sn₉ ed₉ : Int32) (kpl₉ khd₉ kch₉ kdp₉ kpr₉ kbb₉ kby₉ kbs₉ kfe₉ ked₉ keb₉ : Nat → Int32) (kc₉ : Nat → Int64) (kwho₉ kh₉ : Nat → Int32), f_BargeBasinModel_all st0 th0 1 (nI (bw B)) (nI (bh B)) (nI (bn B)) sn0 ed0 kwl kk kat ks ky kg kpl khd kch kdp kpr kbb kby kbs kfe ked keb kc kwho kh = some (ans, st, 0, sn₉, ed₉, kpl₉, khd₉, kch₉, kdp₉, kpr₉, kbb₉, kby₉, kbs₉, kfe₉, ked₉, keb₉, kc₉, kwho₉, kh₉) ∧ allX B P ans st := by
  obtain ⟨n, sn₉, ed₉, b1, b2, b3, b4, b5, b6, b7, b8, b9, b10, b11, kc₉, b12, b13, e, w⟩ := m_ways (but := none) h hP hr hwl hp hg (fun b hb => by cases hb) sn0 ed0 kpl khd kch kdp kpr kbb kby kbs kfe ked keb kc kwho kh
  unfold f_BargeBasinModel_all
  rw [if_neg (show ¬ (1 : Int32) = 0 by decide), ev_b _ (show f_BargeBasinModel_ways (-1) (nI (bw B)) (nI (bh B)) (nI (bn B)) sn0 ed0 kwl kk kat ks ky kg kpl khd kch kdp kpr kbb kby kbs kfe ked keb kc kwho kh = _ from e), un17_ap]
  simp only [cmpGE, cmpL]
  by_cases c : n < 0
  · rw [if_neg (fun z => z c)]
    exact ⟨-1, (-n).toInt32, sn₉, ed₉, b1, b2, b3, b4, b5, b6, b7, b8, b9, b10, b11, kc₉, b12, b13, rfl, n, w, Or.inl ⟨c, rfl, rfl⟩⟩
  · rw [if_pos c]
    by_cases d : n < 4611686018427387904
    · rw [if_pos d]
      exact ⟨n, 0, sn₉, ed₉, b1, b2, b3, b4, b5, b6, b7, b8, b9, b10, b11, kc₉, b12, b13, rfl, n, w, Or.inr (Or.inl ⟨c, d, rfl, rfl⟩)⟩
    · rw [if_neg d]
      exact ⟨-1, 10, sn₉, ed₉, b1, b2, b3, b4, b5, b6, b7, b8, b9, b10, b11, kc₉, b12, b13, rfl, n, w, Or.inr (Or.inr ⟨c, d, rfl, rfl⟩)⟩
theorem m_must {B : Bas} {P : Nat → Nat} {b : Nat} {kwl kk kat ks ky kg : Nat → Int32} (h : basOk B) (hP : stC B P) (hr : rfB B kk ks ky) (hwl : rfW B kwl) (hp : chP B P kat) (hg : chG B kg) (hb : b < bn B) (st0 th0 sn0 ed0 : Int32) (kpl khd kch kdp kpr kbb kby kbs kfe ked keb : Nat → Int32) (kc : Nat → Int64) (kwho kh : Nat → Int32) :
    ∃ (ans st sn₉ ed₉ : Int32) (kpl₉ khd₉ kch₉ kdp₉ kpr₉ kbb₉ kby₉ kbs₉ kfe₉ ked₉ keb₉ : Nat → Int32) (kc₉ : Nat → Int64) (kwho₉ kh₉ : Nat → Int32), f_BargeBasinModel_must (nI b) st0 th0 1 (nI (bw B)) (nI (bh B)) (nI (bn B)) sn0 ed0 kwl kk kat ks ky kg kpl khd kch kdp kpr kbb kby kbs kfe ked keb kc kwho kh = some (ans, st, 0, sn₉, ed₉, kpl₉, khd₉, kch₉, kdp₉, kpr₉, kbb₉, kby₉, kbs₉, kfe₉, ked₉, keb₉, kc₉, kwho₉, kh₉) ∧ mustX B b P ans st := by
  have n12 := h.2.2.2.2.1
  obtain ⟨n, sn₉, ed₉, b1, b2, b3, b4, b5, b6, b7, b8, b9, b10, b11, kc₉, b12, b13, e, w⟩ := m_ways (but := some b) h hP hr hwl hp hg (fun c hc => by cases hc; omega) sn0 ed0 kpl khd kch kdp kpr kbb kby kbs kfe ked keb kc kwho kh
  unfold f_BargeBasinModel_must
  rw [if_neg (show ¬ (1 : Int32) = 0 by decide), if_neg (nI_pos (by omega)), if_pos (nI_lt hb (by omega)), ev_b _ (show f_BargeBasinModel_ways (nI b) (nI (bw B)) (nI (bh B)) (nI (bn B)) sn0 ed0 kwl kk kat ks ky kg kpl khd kch kdp kpr kbb kby kbs kfe ked keb kc kwho kh = _ from e), un17_ap]
  simp only [cmpGE, cmpE]
  by_cases c : n < 0
  · rw [if_neg (fun z => z c)]
    exact ⟨-1, (-n).toInt32, sn₉, ed₉, b1, b2, b3, b4, b5, b6, b7, b8, b9, b10, b11, kc₉, b12, b13, rfl, n, w, Or.inl ⟨c, rfl, rfl⟩⟩
  · rw [if_pos c]
    by_cases d : n = 0
    · rw [if_pos d]
      exact ⟨1, 0, sn₉, ed₉, b1, b2, b3, b4, b5, b6, b7, b8, b9, b10, b11, kc₉, b12, b13, rfl, n, w, Or.inr (Or.inl ⟨c, d, rfl, rfl⟩)⟩
    · rw [if_neg d]
      exact ⟨0, 0, sn₉, ed₉, b1, b2, b3, b4, b5, b6, b7, b8, b9, b10, b11, kc₉, b12, b13, rfl, n, w, Or.inr (Or.inr ⟨c, d, rfl, rfl⟩)⟩
theorem m_reach {B : Bas} {P : Nat → Nat} {kwl kk kat ks ky : Nat → Int32} (h : basOk B) (hP : stC B P) (hr : rfB B kk ks ky) (hwl : rfW B kwl) (hp : chP B P kat) (st0 th0 sn0 ed0 : Int32) (kpl khd kch kdp kpr kbb kby kbs kfe ked keb kwho kh : Nat → Int32) :
    ∃ (ans st sn₉ ed₉ : Int32) (kpl₉ khd₉ kch₉ kdp₉ kpr₉ kbb₉ kby₉ kbs₉ kfe₉ ked₉ keb₉ kwho₉ kh₉ : Nat → Int32), f_BargeBasinModel_reach st0 th0 1 (nI (bw B)) (nI (bh B)) (nI (bn B)) sn0 ed0 kwl kk kat ks ky kpl khd kch kdp kpr kbb kby kbs kfe ked keb kwho kh = some (ans, st, 0, sn₉, ed₉, kpl₉, khd₉, kch₉, kdp₉, kpr₉, kbb₉, kby₉, kbs₉, kfe₉, ked₉, keb₉, kwho₉, kh₉) ∧ reachX B P ans st := by
  obtain ⟨well, sn₉, ed₉, b1, b2, b3, b4, b5, b6, b7, b8, b9, b10, b11, b12, b13, f1, f2, f3⟩ := m_looksAtAll (sg := false) h hP hr hwl hp rfl sn0 ed0 kpl khd kch kdp kpr kbb kby kbs kfe ked keb kwho kh
  rw [show bI false = (0 : Int32) from rfl] at f1
  unfold f_BargeBasinModel_reach
  rw [if_neg (show ¬ (1 : Int32) = 0 by decide), ev_b _ f1, un16_ap]
  cases well with
  | false =>
    rw [if_pos (show bI false = 0 by decide)]
    exact ⟨-1, 10, sn₉, ed₉, b1, b2, b3, b4, b5, b6, b7, b8, b9, b10, b11, b12, b13, rfl, Or.inr ⟨f3 rfl, rfl, rfl⟩⟩
  | true =>
    obtain ⟨g1, g2, -⟩ := f2 rfl
    rw [if_neg (show ¬ bI true = 0 by decide)]
    exact ⟨sn₉, 0, sn₉, ed₉, b1, b2, b3, b4, b5, b6, b7, b8, b9, b10, b11, b12, b13, rfl, Or.inl ⟨g1, g2, rfl⟩⟩
theorem hd_val {B : Bas} {P : Nat → Nat} {s : Int32} {kf kpl : Nat → Int32} (x : hdX B P s kf kpl) : ((s < 0 ∧ farX B P (-1) (-s) ∧ ¬ -s = 0) ∨ ∃ b k, (FL B 7 P).length ≤ 6000 ∧ b < (FL B 7 P).length ∧ bstX B P b k ∧ s = nI b ∧ kf b = nI k ∧ rP B (FL B 7 P) kpl) := by
  rcases x with ⟨x1, x2⟩ | ⟨x1, x2, x3⟩ | ⟨x1, D, b, d1, d2, d3, d4, d5⟩
  · subst x2; exact Or.inl ⟨by decide, Or.inl ⟨x1, rfl, rfl⟩, by decide⟩
  · subst x3; exact Or.inl ⟨by decide, Or.inr (Or.inl ⟨x1, x2, rfl, rfl⟩), by decide⟩
  · have l := bestO_lt d2
    exact Or.inr ⟨b, dvO D b, x1, l.1, ⟨D, d1, d2, some_dv l.2⟩, d3, by rw [d4 b l.1, some_dv l.2]; rfl, d5⟩
theorem m_far {B : Bas} {P : Nat → Nat} {kwl kk kat ks ky kg : Nat → Int32} (h : basOk B) (hP : stC B P) (hr : rfB B kk ks ky) (hwl : rfW B kwl) (hp : chP B P kat) (hg : chG B kg) (st0 th0 sn0 ed0 : Int32) (kpl khd kch kdp kpr kbb kby kbs kf kfe ked keb kwho kh : Nat → Int32) :
    ∃ (ans st sn₉ ed₉ : Int32) (kpl₉ khd₉ kch₉ kdp₉ kpr₉ kbb₉ kby₉ kbs₉ kf₉ kfe₉ ked₉ keb₉ kwho₉ kh₉ : Nat → Int32), f_BargeBasinModel_far st0 th0 1 (nI (bw B)) (nI (bh B)) (nI (bn B)) sn0 ed0 kwl kk kat ks ky kg kpl khd kch kdp kpr kbb kby kbs kf kfe ked keb kwho kh = some (ans, st, 0, sn₉, ed₉, kpl₉, khd₉, kch₉, kdp₉, kpr₉, kbb₉, kby₉, kbs₉, kf₉, kfe₉, ked₉, keb₉, kwho₉, kh₉) ∧ farX B P ans st := by
  obtain ⟨s, sn₉, ed₉, b1, b2, b3, b4, b5, b6, b7, b8, b9, b10, b11, b12, b13, b14, e, x⟩ := m_hardest h hP hr hwl hp hg sn0 ed0 kpl khd kch kdp kpr kbb kby kbs kf kfe ked keb kwho kh
  unfold f_BargeBasinModel_far
  rw [if_neg (show ¬ (1 : Int32) = 0 by decide), ev_b _ e, un17_ap]
  rcases hd_val x with ⟨y1, y2, y3⟩ | ⟨b, k, y1, y2, y3, y4, y5, -⟩
  · rw [if_neg (fun z => by rw [Int32.le_iff_toInt_le] at z; rw [Int32.lt_iff_toInt_lt] at y1; omega)]
    exact ⟨-1, -s, sn₉, ed₉, b1, b2, b3, b4, b5, b6, b7, b8, b9, b10, b11, b12, b13, b14, rfl, y2⟩
  · subst y4
    rw [if_pos (nI_pos' (by omega)), ev_grdN _ (show b < 6001 by omega) (by decide), nI_clamp (by omega), y5]
    exact ⟨nI k, 0, sn₉, ed₉, b1, b2, b3, b4, b5, b6, b7, b8, b9, b10, b11, b12, b13, b14, rfl, Or.inr (Or.inr ⟨y1, b, k, y3, rfl, rfl⟩)⟩
theorem m_goL41 {B : Bas} {L : List (Nat → Nat)} {i : Nat} {kpl : Nat → Int32} (h : basOk B) (hp : rP B L kpl) (hi : i < L.length) (hl : L.length ≤ 6000) : ∀ (r b n : Nat) (ka : Nat → Int32), b + r = bn B → r < n → (∀ c, c < b → ka c = nI (gt L i c)) → ∃ ka₉, f_BargeBasinModel_go_L41 (nI i) (nI (bn B)) kpl n (nI b) ka = some ka₉ ∧ chP B (gt L i) ka₉ := by
  have n12 := h.2.2.2.2.1
  intro r
  induction r with
  | zero =>
    intro b n ka h1 h2 h3
    obtain ⟨n, rfl⟩ : ∃ z, n = z + 1 := ⟨n - 1, by omega⟩
    exact ⟨ka, by rw [f_BargeBasinModel_go_L41, if_pos (nI_le (by omega) (by omega))], fun c hc => h3 c (by omega)⟩
  | succ r ih =>
    intro b n ka h1 h2 h3
    obtain ⟨n, rfl⟩ : ∃ z, n = z + 1 := ⟨n - 1, by omega⟩
    have pv := hp i hi b (by omega)
    rw [← gt_at hi] at pv
    rw [f_BargeBasinModel_go_L41, if_neg (nI_ge (by omega) (by omega)), idx12, ev_grdN _ (show 12 * i + b < 72012 by omega) (by decide), ev_bnd, ev_grdN _ (show b < 12 by omega) (by decide), ev_bnd, nI_1, nI_clamp (show 12 * i + b < 2 ^ 31 by omega), cl_nI (show b < 12 by omega), pv]
    refine ih (b + 1) n _ (by omega) (by omega) (fun c hc => ?_)
    by_cases z : c = b
    · subst z; exact pk_us
    · rw [pk_un z]; exact h3 c (by omega)
theorem m_go {B : Bas} {P : Nat → Nat} {kwl kk kat ks ky kg : Nat → Int32} (h : basOk B) (hP : stC B P) (hr : rfB B kk ks ky) (hwl : rfW B kwl) (hp : chP B P kat) (hg : chG B kg) (st0 th0 um rm sn0 ed0 : Int32) (kpl khd kch kdp kpr kbb kby kbs kf kfe ked keb kwho kh : Nat → Int32) :
    ∃ (ans st um₉ rm₉ sn₉ ed₉ : Int32) (kat₉ kpl₉ khd₉ kch₉ kdp₉ kpr₉ kbb₉ kby₉ kbs₉ kf₉ kfe₉ ked₉ keb₉ kwho₉ kh₉ : Nat → Int32), f_BargeBasinModel_go st0 th0 1 (nI (bw B)) (nI (bh B)) (nI (bn B)) um rm sn0 ed0 kwl kk kat ks ky kg kpl khd kch kdp kpr kbb kby kbs kf kfe ked keb kwho kh = some (ans, st, 0, um₉, rm₉, sn₉, ed₉, kat₉, kpl₉, khd₉, kch₉, kdp₉, kpr₉, kbb₉, kby₉, kbs₉, kf₉, kfe₉, ked₉, keb₉, kwho₉, kh₉) ∧
      ((∃ st0, farX B P (-1) st0 ∧ st0 ≠ 0 ∧ ans = 0 ∧ st = st0 ∧ kat₉ = kat ∧ um₉ = um ∧ rm₉ = rm) ∨ ((FL B 7 P).length ≤ 6000 ∧ ∃ b k, bstX B P b k ∧ ans = 1 ∧ st = 0 ∧ um₉ = 0 ∧ rm₉ = 0 ∧ chP B (gt (FL B 7 P) b) kat₉)) := by
  obtain ⟨s, sn₉, ed₉, b1, b2, b3, b4, b5, b6, b7, b8, b9, b10, b11, b12, b13, b14, e, x⟩ := m_hardest h hP hr hwl hp hg sn0 ed0 kpl khd kch kdp kpr kbb kby kbs kf kfe ked keb kwho kh
  unfold f_BargeBasinModel_go
  rw [if_neg (show ¬ (1 : Int32) = 0 by decide), ev_b _ e, un17_ap]
  rcases hd_val x with ⟨y1, y2, y3⟩ | ⟨b, k, y1, y2, y3, y4, y5, y6⟩
  · rw [if_neg (fun z => by rw [Int32.le_iff_toInt_le] at z; rw [Int32.lt_iff_toInt_lt] at y1; omega)]
    exact ⟨0, -s, um, rm, sn₉, ed₉, kat, b1, b2, b3, b4, b5, b6, b7, b8, b9, b10, b11, b12, b13, b14, rfl, Or.inl ⟨-s, y2, y3, rfl, rfl, rfl, rfl, rfl⟩⟩
  · subst y4
    obtain ⟨ka₉, e2, c2⟩ := m_goL41 h y6 y2 y1 (bn B) 0 jN kat (by omega) (by have := h.2.2.2.2.1; show bn B < 2000000; omega) (fun c hc => by omega)
    rw [nI_0] at e2
    rw [if_pos (nI_pos' (by omega)), ev_b _ e2]
    exact ⟨1, 0, 0, 0, sn₉, ed₉, ka₉, b1, b2, b3, b4, b5, b6, b7, b8, b9, b10, b11, b12, b13, b14, rfl, Or.inr ⟨y1, b, k, y3, rfl, rfl, rfl, rfl, c2⟩⟩
end
section
/-! room, field, lies: both sides answer alike. -/
def rfX (B : Bas) (P : Nat → Nat) (khas kw kh kn : Int32) (kwl kk kat ks ky kg : Nat → Int32) : Prop := khas = 1 ∧ kw = nI (bw B) ∧ kh = nI (bh B) ∧ kn = nI (bn B) ∧ rfW B kwl ∧ rfB B kk ks ky ∧ chP B P kat ∧ chG B kg
theorem fb_c {B : Bas} {b : Nat} (h : basOk B) (hb : b < bn B) : f_BargeBasin_faultOfBarge (nI b) (nI (bw B)) (nI (bn B)) = some 0 := by
  have := h.2.2.2.2.1
  unfold f_BargeBasin_faultOfBarge
  rw [ev_b _ (noBas h), if_pos rfl, if_neg (nI_pos (by omega)), if_pos (nI_lt hb (by omega))]
theorem fb_cn {B : Bas} {x : Int32} (h : basOk B) (hx : x < 0 ∨ nI (bn B) ≤ x) : f_BargeBasin_faultOfBarge x (nI (bw B)) (nI (bn B)) = some 2 := by
  unfold f_BargeBasin_faultOfBarge
  rw [ev_b _ (noBas h), if_pos rfl]
  by_cases c : x < 0
  · rw [if_pos c]
  · rw [if_neg c, if_neg]
    rcases hx with z | z
    · exact absurd z c
    · intro y
      rw [Int32.lt_iff_toInt_lt] at y
      rw [Int32.le_iff_toInt_le] at z
      omega
theorem ib_c {B : Bas} {b : Nat} (h : basOk B) (hb : b < bn B) : f_BargeBasinModel_isBarge (nI b) (nI (bn B)) = some 1 := by
  have := h.2.2.2.2.1
  unfold f_BargeBasinModel_isBarge
  rw [if_neg (nI_pos (by omega)), if_neg (nI_ge hb (by omega))]
theorem ib_cn {B : Bas} {x : Int32} (hx : x < 0 ∨ nI (bn B) ≤ x) : f_BargeBasinModel_isBarge x (nI (bn B)) = some 0 := by
  unfold f_BargeBasinModel_isBarge
  by_cases c : x < 0
  · rw [if_pos c]
  · rw [if_neg c, if_pos]
    rcases hx with z | z
    · exact absurd z c
    · exact z
/-- at the end of the way something hinders, even behind seven steps -/
theorem room_stop {B : Bas} {P : Nat → Nat} {b d : Nat} {bk : Bool} (h : basOk B) (hs : stOk B P) (hb : b < bn B) (hd : d < 4) : hnd B P b d (nxtk d (P b) (room B P b d bk)) bk ≠ 0 := by
  intro z
  have r7 := room_le (B := B) (P := P) (b := b) (d := d) (bk := bk)
  rcases roomA_end (hn := fun q => hnd B P b d q bk) (d := d) (m := 7) (q := P b) with e | e
  · have e7 : room B P b d bk = 7 := e
    obtain ⟨x1, y1⟩ := room_xy (bk := bk) h hs hb hd (k := 7) (by omega)
    rw [e7] at z
    obtain ⟨a1, a2, a3, a4, a5, a6, a7, a8⟩ := basOk_wh h hb
    obtain ⟨g, -⟩ := hnd_0 h hb hd z
    obtain ⟨g1, g2, g3, g4, g5⟩ := goIn_t h.2.1 h.2.2.2.1 a4 a6 hd g
    have i1 := hs.1 b hb
    have w8 := h.2.1
    have h8 := h.2.2.2.1
    have : d = 0 ∨ d = 1 ∨ d = 2 ∨ d = 3 := by omega
    rcases this with q | q | q | q <;> subst q <;> simp [dxI, dyI] at x1 y1 g4 g5 <;> omega
  · exact e z
theorem m_roomL52 {B : Bas} {P : Nat → Nat} {b d : Nat} {kwl kk ks ky : Nat → Int32} (h : basOk B) (hs : stOk B P) (hr : rfB B kk ks ky) (hwl : rfW B kwl) (hb : b < bn B) (hd : d < 4) :
    ∀ (r k n : Nat) (kwho kh : Nat → Int32), k + r = room B P b d false → r < n → rfO B (updN P b (nxtk d (P b) k)) kwho → chP B (updN P b (nxtk d (P b) k)) kh →
      ∃ kwho₉ kh₉, f_BargeBasinModel_room_L52 (nI b) (nI d) (nI (bw B)) (nI (bh B)) kwl kk ks ky n (nI k) kwho kh = some (nI (room B P b d false), kwho₉, kh₉) := by
  have r7 := room_le (B := B) (P := P) (b := b) (d := d) (bk := false)
  intro r
  induction r with
  | zero =>
    intro k n kwho kh h1 h2 h3 h4
    obtain ⟨n, rfl⟩ : ∃ z, n = z + 1 := ⟨n - 1, by omega⟩
    have hk : k = room B P b d false := by omega
    subst hk
    have s1 := (room_st (bk := false) h hs hb hd (Nat.le_refl _)).1
    have ne : hnd B (updN P b (nxtk d (P b) (room B P b d false))) b d (updN P b (nxtk d (P b) (room B P b d false)) b) false ≠ 0 := by
      rw [hnd_upd, updN_s]; exact room_stop h hs hb hd
    have lt := hnd_lt (B := B) (P := updN P b (nxtk d (P b) (room B P b d false))) (b := b) (d := d) (q := updN P b (nxtk d (P b) (room B P b d false)) b) (bk := false)
    exact ⟨kwho, kh, by rw [f_BargeBasinModel_room_L52, ev_b _ (m_hnd h s1 hr hwl h3 h4 hb hd), if_neg (nI_ne0 (by omega) (by omega))]⟩
  | succ r ih =>
    intro k n kwho kh h1 h2 h3 h4
    obtain ⟨n, rfl⟩ : ∃ z, n = z + 1 := ⟨n - 1, by omega⟩
    have s1 := (room_st (bk := false) h hs hb hd (k := k) (by omega)).1
    have w0 : hnd B (updN P b (nxtk d (P b) k)) b d (updN P b (nxtk d (P b) k) b) false = 0 := by
      rw [hnd_upd, updN_s]
      exact room_way (by omega)
    obtain ⟨kwho1, e1, o1⟩ := m_step h s1 hr h3 h4 hb hd w0
    have pos : updN (updN P b (nxtk d (P b) k)) b (nxt d (updN P b (nxtk d (P b) k) b)) = updN P b (nxtk d (P b) (k + 1)) := by rw [updN_two, updN_s, nxtk_s]
    rw [pos] at o1
    have c1 : chP B (updN P b (nxtk d (P b) (k + 1))) (upd kh b (nI (nxt d (updN P b (nxtk d (P b) k) b)))) := by
      rw [← pos]; exact chP_upd h4
    obtain ⟨kw2, kh2, e2⟩ := ih (k + 1) n kwho1 _ (by omega) (by omega) o1 c1
    exact ⟨kw2, kh2, by rw [f_BargeBasinModel_room_L52, ev_b _ (m_hnd h s1 hr hwl h3 h4 hb hd), w0, nI_0, if_pos rfl, ev_b _ e1, un2_ap, ev_bnd, nI_1, e2]⟩
theorem eq_room {B : Bas} {P : Nat → Nat} {cw chh cn : Int32} {cwl ct : Int64} {ck cp cl cg ca cwd chg : Nat → Int32} {cs : Nat → Int64} {khas kw kh kn : Int32} {kwl kk kat ks ky kg : Nat → Int32} (h : basOk B) (hP : stC B P) (hc : chX B P cw chh cn cwl ct ck cp cl cg ca cwd chg cs) (hr : rfX B P khas kw kh kn kwl kk kat ks ky kg) (v1 v2 st st2 th : Int32) (kwho khe : Nat → Int32) :
    ∃ ans st₉ kwho₉ khe₉, f_BargeBasin_room v1 v2 st cw chh cn cwl ct ck cp ca cwd chg cs = some (ans, st₉) ∧ f_BargeBasinModel_room v1 v2 st2 th khas kw kh kn kwl kk kat ks ky kwho khe = some (ans, st₉, 0, kwho₉, khe₉) := by
  obtain ⟨c1, c2, c3, c4, c5, c6, c7, c8, c9⟩ := hc
  obtain ⟨r1, r2, r3, r4, r5, r6, r7, r8⟩ := hr
  subst c1; subst c2; subst c3; subst r1; subst r2; subst r3; subst r4
  have n12 := h.2.2.2.2.1
  unfold f_BargeBasin_room f_BargeBasinModel_room
  rw [if_neg (show ¬ (1 : Int32) = 0 by decide)]
  have bad : ∀ v1, (v1 < 0 ∨ nI (bn B) ≤ v1) ∨ (∃ b, b < bn B ∧ v1 = nI b) := by
    intro v
    rcases pk_ix v (show bn B < 2 ^ 31 by omega) with z | z | z
    · exact Or.inl (Or.inl z)
    · exact Or.inl (Or.inr z)
    · exact Or.inr z
  rcases bad v1 with z | ⟨b, hb, z⟩
  · rw [ev_b _ (fb_cn h z), ev_b _ (ib_cn z), if_neg (show ¬ (2 : Int32) = 0 by decide), if_pos rfl]
    exact ⟨-1, 2, kwho, khe, rfl, rfl⟩
  · subst z
    rw [ev_b _ (fb_c h hb), ev_b _ (ib_c h hb), if_pos rfl, if_neg (show ¬ (1 : Int32) = 0 by decide)]
    rcases pk_ix v2 (show 4 < 2 ^ 31 by decide) with z | z | ⟨d, hd, z⟩
    · rw [if_pos z, if_pos z]
      exact ⟨-1, 2, kwho, khe, rfl, rfl⟩
    · have a1 : ¬ v2 < 0 := fun y => by
        rw [Int32.lt_iff_toInt_lt] at y
        rw [Int32.le_iff_toInt_le] at z
        have : (nI 4).toInt = 4 := by decide
        have : (0 : Int32).toInt = 0 := rfl
        omega
      have a2 : ¬ v2 < 4 := fun y => by
        rw [Int32.lt_iff_toInt_lt] at y
        rw [Int32.le_iff_toInt_le] at z
        have : (nI 4).toInt = (4 : Int32).toInt := rfl
        omega
      have a3 : ¬ v2 ≤ 3 := fun y => by
        rw [Int32.le_iff_toInt_le] at y z
        have : (nI 4).toInt = 4 := by decide
        have : (3 : Int32).toInt = 3 := by decide
        omega
      rw [if_neg a1, if_neg a2, if_neg a1, if_neg a3]
      exact ⟨-1, 2, kwho, khe, rfl, rfl⟩
    · subst z
      obtain ⟨kw1, kh1, e1, o1, p1⟩ := m_layAllB h hP.1.1 r6 r7 kwho khe
      have z0 : updN P b (nxtk d (P b) 0) = P := updN_self
      obtain ⟨kw2, kh2, e2⟩ := m_roomL52 h hP.1 r6 r5 hb hd (room B P b d false) 0 jN kw1 kh1 (by omega) (by have := room_le (B := B) (P := P) (b := b) (d := d) (bk := false); show _ < 2000000; omega) (by rw [z0]; exact o1) (by rw [z0]; exact p1)
      rw [nI_0] at e2
      have sf := s_stepsFrom (bk := false) h hP.1 c6 c7 c5 c4 hb hd
      rw [show bI false = (0 : Int32) from rfl] at sf
      rw [if_neg (nI_pos (by omega)), if_pos (show nI d < 4 from nI_lt (b := 4) hd (by decide)), ev_b _ sf, if_neg (nI_pos (by omega)), if_pos (show nI d ≤ 3 from nI_le (b := 3) (by omega) (by decide)), ev_b _ e1, un2_ap, ev_b _ e2, un3_ap]
      exact ⟨_, 0, kw2, kh2, rfl, rfl⟩
/-! firstIn: the first barge but one in some fields. -/
def fstI (n : Nat) (p : Nat → Bool) (o : Option Nat) : Prop := (∀ b, o = some b → b < n ∧ p b = true ∧ ∀ c, c < b → p c = false) ∧ (o = none → ∀ c, c < n → p c = false)
theorem fst_u {n : Nat} {p : Nat → Bool} {o o₉ : Option Nat} (h1 : fstI n p o) (h2 : fstI n p o₉) : o = o₉ := by
  cases o with
  | none =>
    cases o₉ with
    | none => rfl
    | some b =>
      obtain ⟨q1, q2, -⟩ := h2.1 b rfl
      rw [h1.2 rfl b q1] at q2; cases q2
  | some a =>
    obtain ⟨p1, p2, p3⟩ := h1.1 a rfl
    cases o₉ with
    | none => rw [h2.2 rfl a p1] at p2; cases p2
    | some b =>
      obtain ⟨q1, q2, q3⟩ := h2.1 b rfl
      rcases Nat.lt_trichotomy a b with z | z | z
      · rw [q3 a z] at p2; cases p2
      · rw [z]
      · rw [p3 b z] at q2; cases q2
theorem s_firstIn {B : Bas} {P : Nat → Nat} {x : Int64} {but : Option Nat} {kk ka kw kh kp : Nat → Int32} {ks : Nat → Int64} (h : basOk B) (hi : insA B P) (hc : chB B kk ka kw kh ks) (hp : chP B P kp) (hbut : ∀ b, but = some b → b < 12) :
    ∃ o, f_Chart_firstIn x (oI but) (nI (bn B)) kp ks = some (oI o) ∧ fstI (bn B) (fun b => decide (¬ but = some b) && anyF (fun f => fbA B P b f && tb x f)) o := by
  have n12 := h.2.2.2.2.1
  have loop : ∀ (r b n : Nat), b + r = bn B → r < n → (∀ c, c < b → (decide (¬ but = some c) && anyF (fun f => fbA B P c f && tb x f)) = false) → ∃ y, f_Chart_firstIn_L3 x (oI but) (nI (bn B)) kp ks n (nI b) = some y ∧ ((∃ c, y = .inl (nI c) ∧ c < bn B ∧ (decide (¬ but = some c) && anyF (fun f => fbA B P c f && tb x f)) = true ∧ ∀ a, a < c → (decide (¬ but = some a) && anyF (fun f => fbA B P a f && tb x f)) = false) ∨ (y = .inr () ∧ ∀ c, c < bn B → (decide (¬ but = some c) && anyF (fun f => fbA B P c f && tb x f)) = false)) := by
    intro r
    induction r with
    | zero =>
      intro b n h1 h2 h3
      obtain ⟨n, rfl⟩ : ∃ z, n = z + 1 := ⟨n - 1, by omega⟩
      exact ⟨.inr (), by rw [f_Chart_firstIn_L3, if_pos (nI_le (by omega) (by omega))], Or.inr ⟨rfl, fun c hc => h3 c (by omega)⟩⟩
    | succ r ih =>
      intro b n h1 h2 h3
      obtain ⟨n, rfl⟩ : ∃ z, n = z + 1 := ⟨n - 1, by omega⟩
      have hb : b < bn B := by omega
      have ce : (nI b = oI but) = (but = some b) := by
        have q := oI_eq (o := but) (b := b) (by omega) (fun c hc => by have := hbut c hc; omega)
        exact propext ⟨fun z => q.mp z.symm, fun z => (q.mpr z).symm⟩
      obtain ⟨w, e1, t1⟩ := s_fields h hi hc hp hb
      have e0 : anyF (fun f => tb w f && tb x f) = anyF (fun f => fbA B P b f && tb x f) := anyF_cg fun f hf => by rw [t1 f hf]
      rw [f_Chart_firstIn_L3, if_neg (nI_ge hb (by omega)), ev_b _ e1]
      simp only [ce, cmp0, and0, e0, ev_bnd, nI_1]
      by_cases z : but = some b
      · rw [if_pos z]
        refine ih (b + 1) n (by omega) (by omega) (fun c hc => ?_)
        by_cases y : c = b
        · subst y; simp [z]
        · exact h3 c (by omega)
      · rw [if_neg z]
        cases ea : anyF (fun f => fbA B P b f && tb x f) with
        | false =>
          rw [if_pos rfl]
          refine ih (b + 1) n (by omega) (by omega) (fun c hc => ?_)
          by_cases y : c = b
          · subst y; rw [ea, Bool.and_false]
          · exact h3 c (by omega)
        | true =>
          rw [if_neg (by decide)]
          exact ⟨_, rfl, Or.inl ⟨b, rfl, hb, by rw [ea]; simp [z], h3⟩⟩
  obtain ⟨y, e, q⟩ := loop (bn B) 0 jN (by omega) (by show bn B < 2000000; omega) (fun c hc => by omega)
  rw [nI_0] at e
  unfold f_Chart_firstIn
  rw [ev_b _ e]
  rcases q with ⟨c, q1, q2, q3, q4⟩ | ⟨q1, q2⟩
  · exact ⟨some c, by rw [q1, jsel_l]; rfl, fun b hb => by cases hb; exact ⟨q2, q3, q4⟩, fun z => by cases z⟩
  · exact ⟨none, by rw [q1, jsel_r, un0_ap]; rfl, fun b hb => by (cases hb), fun _ => q2⟩
theorem fst_who {B : Bas} {P : Nat → Nat} {f : Nat} (ha : apA B P) (hf : f < 64) : fstI (bn B) (fun b => fbA B P b f) (whoN (fbA B P) (bn B) f) := by
  refine ⟨fun b hb => ?_, fun z c hc => whoN_none.mp z c hc⟩
  have := whoN_mem hb
  refine ⟨this.1, this.2, fun c hc => ?_⟩
  rw [← Bool.not_eq_true]
  intro z
  have := ha c b f (by omega) this.1 hf z this.2
  omega
/-- a field's number from x and y -/
theorem fld {B : Bas} {v1 v2 : Int32} (h : basOk B) : (∃ x y, x < bw B ∧ y < bh B ∧ v1 = nI x ∧ v2 = nI y ∧ f_BargeBasin_isNoField v1 v2 (nI (bw B)) (nI (bh B)) = some 0 ∧ f_BargeBasinModel_isField v1 v2 (nI (bw B)) (nI (bh B)) = some 1) ∨
    ((¬ (0 ≤ v1.toInt ∧ v1.toInt < bw B ∧ 0 ≤ v2.toInt ∧ v2.toInt < bh B)) ∧ f_BargeBasin_isNoField v1 v2 (nI (bw B)) (nI (bh B)) = some 1 ∧ f_BargeBasinModel_isField v1 v2 (nI (bw B)) (nI (bh B)) = some 0) := by
  have w8 := h.2.1
  have h8 := h.2.2.2.1
  have hf := m_isField (x := v1) (y := v2) w8 h8
  have z0 : (0 : Int32).toInt = 0 := rfl
  have nf : f_BargeBasin_isNoField v1 v2 (nI (bw B)) (nI (bh B)) = some (bI (decide (¬ (0 ≤ v1.toInt ∧ v1.toInt < bw B ∧ 0 ≤ v2.toInt ∧ v2.toInt < bh B)))) := by
    unfold f_BargeBasin_isNoField f_BargeBasin_isNoLine
    simp only [Int32.lt_iff_toInt_lt, Int32.le_iff_toInt_le, nI_toInt (show bw B < 2 ^ 31 by omega), nI_toInt (show bh B < 2 ^ 31 by omega), z0]
    by_cases h1 : v1.toInt < 0
    · rw [if_pos h1, decide_eq_true (by omega)]; rfl
    · rw [if_neg h1]
      by_cases h2 : (bw B : Int) ≤ v1.toInt
      · rw [if_pos h2, decide_eq_true (by omega)]; rfl
      · rw [if_neg h2]
        by_cases h3 : v2.toInt < 0
        · rw [if_pos h3, decide_eq_true (by omega)]; rfl
        · rw [if_neg h3]
          by_cases h4 : v2.toInt < (bh B : Int)
          · rw [if_pos h4, decide_eq_false (by omega)]; rfl
          · rw [if_neg h4, decide_eq_true (by omega)]; rfl
  by_cases c : 0 ≤ v1.toInt ∧ v1.toInt < bw B ∧ 0 ≤ v2.toInt ∧ v2.toInt < bh B
  · obtain ⟨c1, c2, c3, c4⟩ := c
    obtain ⟨x, hx, ex⟩ := nI_of (x := v1) (fun z => by rw [Int32.lt_iff_toInt_lt, z0] at z; omega)
    obtain ⟨y, hy, ey⟩ := nI_of (x := v2) (fun z => by rw [Int32.lt_iff_toInt_lt, z0] at z; omega)
    rw [ex, nI_toInt hx] at c2
    rw [ey, nI_toInt hy] at c4
    refine Or.inl ⟨x, y, by omega, by omega, ex, ey, ?_, ?_⟩
    · rw [nf, decide_eq_false (by rw [ex, ey, nI_toInt hx, nI_toInt hy]; omega)]; rfl
    · rw [hf, decide_eq_true (by rw [ex, ey, nI_toInt hx, nI_toInt hy]; omega)]; rfl
  · exact Or.inr ⟨c, by rw [nf, decide_eq_true c]; rfl, by rw [hf, decide_eq_false c]; rfl⟩
theorem s_isWall {B : Bas} {x y : Nat} {kwl : Int64} (h : basOk B) (hw : chW B kwl) (hx : x < 8) (hy : y < 8) : f_Chart_isWall (nI x) (nI y) kwl = some (bI (bwl B (x + 8 * y))) := by
  have e : (8 : Int32) * nI y + nI x = nI (x + 8 * y) := by rw [i8, nI_add, Nat.add_comm]
  unfold f_Chart_isWall
  rw [e]
  simp only [cmp0, and0]
  have a : anyF (fun f => tb (jlushr kwl (nI (x + 8 * y))) f && tb 1 f) = bwl B (x + 8 * y) := by
    rw [← hw _ (show x + 8 * y < 64 by omega), Bool.eq_iff_iff, anyF_t]
    constructor
    · rintro ⟨f, hf, q⟩
      rw [Bool.and_eq_true, tb_shr (by omega), tb_1, decide_eq_true_eq] at q
      rw [q.2, Nat.add_zero] at q
      exact q.1
    · intro q
      exact ⟨0, by decide, by rw [tb_shr (by omega), tb_1, Nat.add_zero, q]; rfl⟩
  rw [a]
  cases bwl B (x + 8 * y) <;> rfl
theorem s_signAt {B : Bas} {P : Nat → Nat} {x y : Nat} {kwl : Int64} {kk ka kw kh kp : Nat → Int32} {ks : Nat → Int64} (h : basOk B) (hs : stOk B P) (hc : chB B kk ka kw kh ks) (hp : chP B P kp) (hw : chW B kwl) (hx : x < 8) (hy : y < 8) :
    f_Chart_signAt (nI x) (nI y) (nI (bn B)) kwl kp ks = some (if bwl B (x + 8 * y) = true then -2 else match whoN (fbA B P) (bn B) (x + 8 * y) with | some b => nI b | none => -3) := by
  have e : (8 : Int32) * nI y + nI x = nI (x + 8 * y) := by rw [i8, nI_add, Nat.add_comm]
  have n12 := h.2.2.2.2.1
  obtain ⟨o, e1, f1⟩ := s_firstIn (x := jlshl 1 (nI (x + 8 * y))) (but := none) h hs.1 hc hp (fun b hb => by cases hb)
  have f2 : fstI (bn B) (fun b => fbA B P b (x + 8 * y)) o := by
    have : (fun b => decide (¬ (none : Option Nat) = some b) && anyF (fun f => fbA B P b f && tb (jlshl 1 (nI (x + 8 * y))) f)) = (fun b => fbA B P b (x + 8 * y)) := by
      funext b
      rw [Bool.eq_iff_iff, Bool.and_eq_true, anyF_t]
      constructor
      · rintro ⟨-, f, hf, q⟩
        rw [tb_one (by omega), Bool.and_eq_true, decide_eq_true_eq] at q
        rw [← q.2]; exact q.1
      · intro q
        exact ⟨by simp, x + 8 * y, by omega, by rw [tb_one (by omega), q]; simp⟩
    rw [this] at f1
    exact f1
  have eo := fst_u f2 (fst_who hs.2.1 (show x + 8 * y < 64 by omega))
  unfold f_Chart_signAt
  rw [ev_b _ (s_isWall h hw hx hy), e]
  cases bwl B (x + 8 * y) with
  | true => rfl
  | false =>
    rw [if_pos (show bI false = 0 by decide), ev_b _ (show f_Chart_firstIn (jlshl 1 (nI (x + 8 * y))) (-1) (nI (bn B)) kp ks = _ from e1), if_neg (show ¬ false = true by decide), ← eo]
    cases o with
    | none => rfl
    | some b =>
      have := (f2.1 b rfl).1
      rw [show oI (some b) = nI b from rfl, if_pos (nI_pos' (by omega))]
theorem eq_field {B : Bas} {P : Nat → Nat} {cw chh cn : Int32} {cwl ct : Int64} {ck cp cl cg ca cwd chg : Nat → Int32} {cs : Nat → Int64} {khas kw kh kn : Int32} {kwl kk kat ks ky kg : Nat → Int32} (h : basOk B) (hP : stC B P) (hc : chX B P cw chh cn cwl ct ck cp cl cg ca cwd chg cs) (hr : rfX B P khas kw kh kn kwl kk kat ks ky kg) (v1 v2 st st2 th : Int32) (kwho khe : Nat → Int32) :
    ∃ ans st₉ kwho₉ khe₉, f_BargeBasin_field v1 v2 st cw chh cn cwl cp cs = some (ans, st₉) ∧ f_BargeBasinModel_field v1 v2 st2 th khas kw kh kn kwl kk kat ks ky kwho khe = some (ans, st₉, 0, kwho₉, khe₉) := by
  obtain ⟨c1, c2, c3, c4, c5, c6, c7, c8, c9⟩ := hc
  obtain ⟨r1, r2, r3, r4, r5, r6, r7, r8⟩ := hr
  subst c1; subst c2; subst c3; subst r1; subst r2; subst r3; subst r4
  have n12 := h.2.2.2.2.1
  have w8 := h.2.1
  have h8 := h.2.2.2.1
  unfold f_BargeBasin_field f_BargeBasinModel_field
  rw [if_neg (show ¬ (1 : Int32) = 0 by decide), ev_b _ (noBas h), if_pos rfl]
  rcases fld (v1 := v1) (v2 := v2) h with ⟨x, y, hx, hy, ex, ey, f1, f2⟩ | ⟨-, f1, f2⟩
  · obtain ⟨kw1, kh1, e1, o1, p1⟩ := m_layAllB h hP.1.1 r6 r7 kwho khe
    have e : nI x + (8 : Int32) * nI y = nI (x + 8 * y) := by rw [i8, nI_add]
    rw [ev_b _ f1, ev_b _ f2, if_pos rfl, if_neg (show ¬ (1 : Int32) = 0 by decide)]
    subst ex; subst ey
    rw [ev_b _ (s_signAt h hP.1 c6 c7 c4 (by omega) (by omega)), ev_b _ e1, un2_ap, e, ev_grdN _ (show x + 8 * y < 64 by omega) (by decide), ev_grdN _ (show x + 8 * y < 64 by omega) (by decide), ev_grdN _ (show x + 8 * y < 64 by omega) (by decide), nI_clamp (show x + 8 * y < 2 ^ 31 by omega), r5 _ (show x + 8 * y < 64 by omega), o1 _ (show x + 8 * y < 64 by omega)]
    cases bwl B (x + 8 * y) with
    | true => exact ⟨-2, 0, kw1, kh1, rfl, rfl⟩
    | false =>
      rw [if_neg (show ¬ false = true by decide), if_pos (show bI false = 0 by decide)]
      cases eo : whoN (fbA B P) (bn B) (x + 8 * y) with
      | none => exact ⟨-3, 0, kw1, kh1, rfl, rfl⟩
      | some b =>
        have := (whoN_mem eo).1
        rw [if_neg (show ¬ oI (some b) < 0 from nI_pos (by omega))]
        exact ⟨nI b, 0, kw1, kh1, rfl, rfl⟩
  · rw [ev_b _ f1, ev_b _ f2, if_neg (show ¬ (1 : Int32) = 0 by decide), if_pos rfl]
    exact ⟨-1, 2, kwho, khe, rfl, rfl⟩
end
section
/-! Who hinders: hinderer of the class, beside and least of the reference. -/
theorem minO_some {a b : Option Nat} {c : Nat} (h : minO a b = some c) : (a = some c ∨ b = some c) ∧ (∀ x, a = some x → c ≤ x) ∧ (∀ x, b = some x → c ≤ x) := by
  cases a with
  | none => exact ⟨Or.inr h, fun x hx => by (cases hx), fun x hx => by have h₉ : b = some c := h; rw [h₉] at hx; cases hx; exact Nat.le_refl _⟩
  | some a =>
    cases b with
    | none => exact ⟨Or.inl h, fun x hx => by have h₉ : some a = some c := h; rw [h₉] at hx; cases hx; exact Nat.le_refl _, fun x hx => by (cases hx)⟩
    | some b =>
      have h₉ : some (if b < a then b else a) = some c := h
      have e := Option.some.inj h₉
      by_cases l : b < a
      · rw [if_pos l] at e
        subst e
        exact ⟨Or.inr rfl, fun x hx => by cases hx; omega, fun x hx => by cases hx; exact Nat.le_refl _⟩
      · rw [if_neg l] at e
        subst e
        exact ⟨Or.inl rfl, fun x hx => by cases hx; exact Nat.le_refl _, fun x hx => by cases hx; omega⟩
theorem besO_some {w h q c : Nat} {wo : Nat → Option Nat} (e : besO w h q wo = some c) : (∃ d, d < 4 ∧ nbO w h q wo d = some c) ∧ ∀ d, d < 4 → ∀ x, nbO w h q wo d = some x → c ≤ x := by
  unfold besO at e
  obtain ⟨a1, a2, a3⟩ := minO_some e
  have s2 : ∀ y, minO (minO (nbO w h q wo 0) (nbO w h q wo 1)) (nbO w h q wo 2) = some y → c ≤ y := a2
  have gen : ∀ {p r : Option Nat} {x m : Nat}, (∀ y, minO p r = some y → m ≤ y) → (p = some x → m ≤ x) ∧ (r = some x → m ≤ x) := by
    intro p r x m H
    constructor
    · intro hp
      cases z : minO p r with
      | none => rw [minO_none] at z; rw [z.1] at hp; cases hp
      | some y => have := (minO_some z).2.1 x hp; have := H y z; omega
    · intro hr
      cases z : minO p r with
      | none => rw [minO_none] at z; rw [z.2] at hr; cases hr
      | some y => have := (minO_some z).2.2 x hr; have := H y z; omega
  have s1 : ∀ y, minO (nbO w h q wo 0) (nbO w h q wo 1) = some y → c ≤ y := fun y hy => (gen s2).1 hy
  constructor
  · rcases a1 with z | z
    · obtain ⟨b1, -, -⟩ := minO_some z
      rcases b1 with y | y
      · obtain ⟨c1, -, -⟩ := minO_some y
        rcases c1 with x | x
        · exact ⟨0, by decide, x⟩
        · exact ⟨1, by decide, x⟩
      · exact ⟨2, by decide, y⟩
    · exact ⟨3, by decide, z⟩
  · intro d hd x hx
    have : d = 0 ∨ d = 1 ∨ d = 2 ∨ d = 3 := by omega
    rcases this with z | z | z | z <;> subst z
    · exact (gen s1).1 hx
    · exact (gen s1).2 hx
    · exact (gen s2).2 hx
    · exact a3 x hx
theorem bes_fst {B : Bas} {P : Nat → Nat} {b q : Nat} (h : basOk B) (hs : stOk B P) (hq : q < 64) (hb1 : ∀ f, f < 64 → nextTo q f = true → ¬ whoN (fbA B P) (bn B) f = some b) : fstI (bn B) (fun c => decide (¬ some b = some c) && anyF (fun f => fbA B P c f && nextTo q f)) (besO (bw B) (bh B) q (whoN (fbA B P) (bn B))) := by
  have w8 := h.2.1
  have h8 := h.2.2.2.1
  have key : ∀ a, a < bn B → (decide (¬ some b = some a) && anyF (fun f => fbA B P a f && nextTo q f)) = true → ∃ d, d < 4 ∧ nbO (bw B) (bh B) q (whoN (fbA B P) (bn B)) d = some a := by
    intro a ha z
    rw [Bool.and_eq_true, anyF_t] at z
    obtain ⟨-, f, hf, y⟩ := z
    rw [Bool.and_eq_true] at y
    obtain ⟨i1, i2⟩ := fb_w hs.1 ha y.1
    obtain ⟨d, hd, g, e⟩ := (nextTo_nxt w8 h8 hq hf i1 i2).mp y.2
    refine ⟨d, hd, ?_⟩
    unfold nbO
    rw [if_pos g, e]
    exact (whoN_some hs.2.1 hf).mpr ⟨ha, y.1⟩
  constructor
  · intro c hc
    obtain ⟨⟨d, hd, e⟩, q2⟩ := besO_some hc
    unfold nbO at e
    by_cases g : goIn (bw B) (bh B) 1 1 d q = true
    · rw [if_pos g] at e
      obtain ⟨g1, g2, g3, -, -⟩ := goIn_t w8 h8 (Nat.le_refl 1) (Nat.le_refl 1) hd g
      have nt := (nextTo_nxt w8 h8 hq g1 (by omega) (by omega)).mpr ⟨d, hd, g, rfl⟩
      have m := whoN_mem e
      refine ⟨m.1, ?_, ?_⟩
      · rw [Bool.and_eq_true, anyF_t]
        refine ⟨?_, nxt d q, g1, by rw [m.2, nt]; rfl⟩
        rw [decide_eq_true_eq]
        intro z
        cases z
        exact hb1 _ g1 nt e
      · intro a ha
        rw [← Bool.not_eq_true]
        intro z
        obtain ⟨d₉, hd₉, e₉⟩ := key a (by omega) z
        have := q2 d₉ hd₉ a e₉
        omega
    · rw [if_neg g] at e; cases e
  · intro hn c hc
    rw [← Bool.not_eq_true]
    intro z
    obtain ⟨d, hd, e⟩ := key c hc z
    rw [besO_none.mp hn d hd] at e
    cases e
theorem m_leL55 {b X Y j W : Nat} {kk ks ky kwho : Nat → Int32} {wo : Nat → Option Nat}
    (hb : b < 12) (hw : f_BargeBasinModel_wide (nI b) kk ks ky = some (nI W)) (hwo : ∀ f, f < 64 → kwho f = oI (wo f)) (ho : ∀ f c, wo f = some c → c < 12) (hX : X + W ≤ 8) (hj : j < 8) :
    ∀ (r i n m : Nat), i + r = X + W → r < n → m ≤ 12 → ∃ m₉, f_BargeBasinModel_least_L55 (nI b) (nI X) (nI Y) (nI j) kk ks ky kwho n (nI m) (nI i) = some (nI m₉) ∧ m₉ ≤ m ∧ (m₉ = m ∨ ∃ x, i ≤ x ∧ x < X + W ∧ wo (x + 8 * j) = some m₉ ∧ m₉ ≠ b) ∧ (∀ x c, i ≤ x → x < X + W → wo (x + 8 * j) = some c → c ≠ b → m₉ ≤ c) := by
  intro r
  induction r with
  | zero =>
    intro i n m h1 h2 h3
    obtain ⟨n, rfl⟩ : ∃ z, n = z + 1 := ⟨n - 1, by omega⟩
    exact ⟨m, by rw [f_BargeBasinModel_least_L55, ev_b _ hw, nI_add, if_pos (nI_le (by omega) (by omega))], Nat.le_refl _, Or.inl rfl, fun x c q1 q2 => by omega⟩
  | succ r ih =>
    intro i n m h1 h2 h3
    obtain ⟨n, rfl⟩ : ∃ z, n = z + 1 := ⟨n - 1, by omega⟩
    have o31 : ∀ c, wo (i + 8 * j) = some c → c < 2 ^ 31 := fun c hc => by have := ho _ c hc; omega
    rw [f_BargeBasinModel_least_L55, ev_b _ hw, nI_add, if_neg (nI_ge (by omega) (by omega)), i8, nI_add, ev_grdN _ (show i + 8 * j < 64 by omega) (by decide), ev_grdN _ (show i + 8 * j < 64 by omega) (by decide), ev_grdN _ (show i + 8 * j < 64 by omega) (by decide), nI_clamp (show i + 8 * j < 2 ^ 31 by omega), hwo _ (show i + 8 * j < 64 by omega)]
    simp only [oI_neg o31, oI_eq (show b < 2 ^ 31 by omega) o31, ev_bnd, nI_1]
    have go : ∀ m0, m0 ≤ m → (m0 = m ∨ (wo (i + 8 * j) = some m0 ∧ m0 ≠ b)) → (∀ c, wo (i + 8 * j) = some c → c ≠ b → m0 ≤ c) → ∃ m₉, f_BargeBasinModel_least_L55 (nI b) (nI X) (nI Y) (nI j) kk ks ky kwho n (nI m0) (nI (i + 1)) = some (nI m₉) ∧ m₉ ≤ m ∧ (m₉ = m ∨ ∃ x, i ≤ x ∧ x < X + W ∧ wo (x + 8 * j) = some m₉ ∧ m₉ ≠ b) ∧ (∀ x c, i ≤ x → x < X + W → wo (x + 8 * j) = some c → c ≠ b → m₉ ≤ c) := by
      intro m0 l0 e0 c0
      obtain ⟨m₉, e, q1, q2, q3⟩ := ih (i + 1) n m0 (by omega) (by omega) (by omega)
      refine ⟨m₉, e, by omega, ?_, ?_⟩
      · rcases q2 with z | ⟨x, x1, x2, x3⟩
        · rcases e0 with y | y
          · exact Or.inl (by rw [z, y])
          · exact Or.inr ⟨i, Nat.le_refl _, by omega, by rw [z]; exact y⟩
        · exact Or.inr ⟨x, by omega, x2, x3⟩
      · intro x c x1 x2 x3 x4
        by_cases z : x = i
        · subst z
          have := c0 c x3 x4
          omega
        · exact q3 x c (by omega) x2 x3 x4
    cases ew : wo (i + 8 * j) with
    | none =>
      rw [if_pos rfl]
      exact go m (Nat.le_refl _) (Or.inl rfl) (fun c hc => by rw [ew] at hc; cases hc)
    | some c =>
      have c12 := ho _ c ew
      rw [if_neg (by intro z; cases z)]
      by_cases cb : c = b
      · rw [if_pos (by rw [cb])]
        exact go m (Nat.le_refl _) (Or.inl rfl) (fun c₉ hc₉ hne => by rw [ew] at hc₉; cases hc₉; exact absurd cb hne)
      · rw [if_neg (by intro z; exact cb (Option.some.inj z))]
        show ∃ m₉, f_BargeBasinModel_least_L55 (nI b) (nI X) (nI Y) (nI j) kk ks ky kwho n (if nI c < nI m then nI c else nI m) (nI (i + 1)) = some (nI m₉) ∧ _
        by_cases l : c < m
        · rw [if_pos (nI_lt l (by omega))]
          exact go c (by omega) (Or.inr ⟨ew, cb⟩) (fun c₉ hc₉ _ => by rw [ew] at hc₉; cases hc₉; exact Nat.le_refl _)
        · rw [if_neg (nI_nlt (by omega) (by omega))]
          exact go m (Nat.le_refl _) (Or.inl rfl) (fun c₉ hc₉ _ => by rw [ew] at hc₉; cases hc₉; omega)
theorem m_leL39 {b X Y W H : Nat} {kk ks ky kwho : Nat → Int32} {wo : Nat → Option Nat}
    (hb : b < 12) (hw : f_BargeBasinModel_wide (nI b) kk ks ky = some (nI W)) (ht : f_BargeBasinModel_tall (nI b) kk ks ky = some (nI H)) (hwo : ∀ f, f < 64 → kwho f = oI (wo f)) (ho : ∀ f c, wo f = some c → c < 12) (hX : X + W ≤ 8) (hY : Y + H ≤ 8) :
    ∀ (r j n m : Nat), j + r = Y + H → r < n → m ≤ 12 → ∃ m₉, f_BargeBasinModel_least_L39 (nI b) (nI X) (nI Y) kk ks ky kwho n (nI m) (nI j) = some (nI m₉) ∧ m₉ ≤ m ∧ (m₉ = m ∨ ∃ z x, j ≤ z ∧ z < Y + H ∧ X ≤ x ∧ x < X + W ∧ wo (x + 8 * z) = some m₉ ∧ m₉ ≠ b) ∧ (∀ z x c, j ≤ z → z < Y + H → X ≤ x → x < X + W → wo (x + 8 * z) = some c → c ≠ b → m₉ ≤ c) := by
  intro r
  induction r with
  | zero =>
    intro j n m h1 h2 h3
    obtain ⟨n, rfl⟩ : ∃ z, n = z + 1 := ⟨n - 1, by omega⟩
    exact ⟨m, by rw [f_BargeBasinModel_least_L39, ev_b _ ht, nI_add, if_pos (nI_le (by omega) (by omega))], Nat.le_refl _, Or.inl rfl, fun z x c q1 q2 => by omega⟩
  | succ r ih =>
    intro j n m h1 h2 h3
    obtain ⟨n, rfl⟩ : ∃ z, n = z + 1 := ⟨n - 1, by omega⟩
    obtain ⟨m1, e1, q1, q2, q3⟩ := m_leL55 (Y := Y) hb hw hwo ho hX (show j < 8 by omega) W X jN m (by omega) (by show W < 2000000; omega) h3
    obtain ⟨m2, e2, p1, p2, p3⟩ := ih (j + 1) n m1 (by omega) (by omega) (by omega)
    refine ⟨m2, by rw [f_BargeBasinModel_least_L39, ev_b _ ht, nI_add, if_neg (nI_ge (by omega) (by omega)), ev_b _ e1, ev_bnd, nI_1, e2], by omega, ?_, ?_⟩
    · rcases p2 with z | ⟨z, x, x1, x2, x3⟩
      · rcases q2 with y | ⟨x, y1, y2, y3⟩
        · exact Or.inl (by rw [z, y])
        · exact Or.inr ⟨j, x, Nat.le_refl _, by omega, y1, y2, by rw [z]; exact y3⟩
      · exact Or.inr ⟨z, x, by omega, x2, x3⟩
    · intro z x c z1 z2 x1 x2 hw₉ hne
      by_cases y : z = j
      · subst y
        have := q3 x c x1 x2 hw₉ hne
        omega
      · exact p3 z x c (by omega) z2 x1 x2 hw₉ hne
end
section
/-! The moves that were done, and those that were undone: the class's ring, the reference's rows. -/
def cT (T : List Nat) (k : Nat) : Nat := T.getD k 0
theorem cT_at {T : List Nat} {k : Nat} (h : k < T.length) : cT T k = T[k] := by
  unfold cT
  rw [List.getD_eq_getElem?_getD, List.getElem?_eq_getElem h]; rfl
def lgT (B : Bas) (P : Nat → Nat) (T : List Nat) (S : Nat → Nat → Nat) (D : Nat) : Prop :=
  T.length ≤ 60 ∧ D ≤ T.length ∧ S D = P ∧ (∀ k, k ≤ T.length → stC B (S k)) ∧ ∀ k, k < T.length → cT T k < 400 ∧ cT T k / 32 < bn B ∧ S (k + 1) = updN (S k) (cT T k / 32) (S (k + 1) (cT T k / 32)) ∧ ((S (k + 1) (cT T k / 32) : Nat) : Int) = (S k (cT T k / 32) : Int) + (cT T k % 8 : Nat) * stI (cT T k / 8 % 4)
def lgC (T : List Nat) (D : Nat) (kf kd ku : Int32) (km : Nat → Int32) : Prop := ∃ f, kf = nI f ∧ f < 60 ∧ kd = nI D ∧ ku = nI (T.length - D) ∧ ∀ k, k < T.length → km ((f + k) % 60) = nI (cT T k)
def lgM (T : List Nat) (S : Nat → Nat → Nat) (D : Nat) (um rm : Int32) (ub uf ut rb rf rt : Nat → Int32) : Prop := um = nI D ∧ rm = nI (T.length - D) ∧
  (∀ k, k < D → ub k = nI (cT T k / 32) ∧ uf k = nI (S k (cT T k / 32)) ∧ ut k = nI (S (k + 1) (cT T k / 32))) ∧
  (∀ j, j < T.length - D → rb j = nI (cT T (T.length - 1 - j) / 32) ∧ rf j = nI (S (T.length - 1 - j) (cT T (T.length - 1 - j) / 32)) ∧ rt j = nI (S (T.length - j) (cT T (T.length - 1 - j) / 32)))
theorem step32 : ∀ p, p < 64 → ∀ s, s < 8 → ∀ d, d < 4 → nI p + nI s * sv_STEP d = Int32.ofInt ((p : Int) + s * stI d) ∧ nI p + (- nI s) * sv_STEP d = Int32.ofInt ((p : Int) - s * stI d) := by decide +kernel
theorem ofInt_nI (q : Nat) : Int32.ofInt (q : Int) = nI q := Int32.ofInt_eq_ofNat
theorem rem60 {x : Nat} (h : x < 2 ^ 31) : nI x - nI x / 60 * 60 = nI (x % 60) := pk_rem (d := 60) h (by decide) (by decide)
/-- the list and the stands with one move more -/
def nxT (T : List Nat) (D c : Nat) : List Nat := if D = 60 then T.drop 1 ++ [c] else T.take D ++ [c]
def nxS (S : Nat → Nat → Nat) (D : Nat) (Q : Nat → Nat) : Nat → Nat → Nat := fun k => if D = 60 then (if k < 60 then S (k + 1) else Q) else (if k ≤ D then S k else Q)
def nxD (D : Nat) : Nat := if D = 60 then 60 else D + 1
theorem nxT_len {T : List Nat} {D c : Nat} (h1 : T.length ≤ 60) (h2 : D ≤ T.length) : (nxT T D c).length = nxD D := by
  unfold nxT nxD
  by_cases e : D = 60
  · rw [if_pos e, if_pos e, List.length_append, List.length_drop, List.length_singleton]; omega
  · rw [if_neg e, if_neg e, List.length_append, List.length_take, List.length_singleton]; omega
theorem cT_app {l : List Nat} {c k : Nat} : cT (l ++ [c]) k = if k < l.length then cT l k else if k = l.length then c else 0 := by
  by_cases h : k < l.length
  · rw [if_pos h, cT_at h, cT_at (by rw [List.length_append]; omega), List.getElem_append_left h]
  · rw [if_neg h]
    by_cases e : k = l.length
    · rw [if_pos e]
      subst e
      rw [cT_at (by simp)]
      simp
    · rw [if_neg e]
      unfold cT
      rw [List.getD_eq_getElem?_getD, List.getElem?_eq_none (by rw [List.length_append, List.length_singleton]; omega)]; rfl
theorem nxT_at {T : List Nat} {D c k : Nat} (h1 : T.length ≤ 60) (h2 : D ≤ T.length) (hk : k < nxD D) : cT (nxT T D c) k = if D = 60 then (if k < 59 then cT T (k + 1) else c) else (if k < D then cT T k else c) := by
  unfold nxT
  unfold nxD at hk
  by_cases e : D = 60
  · rw [if_pos e] at hk
    rw [if_pos e, if_pos e, cT_app, List.length_drop]
    by_cases z : k < 59
    · rw [if_pos (by omega), if_pos z, cT_at (by rw [List.length_drop]; omega), cT_at (by omega), List.getElem_drop]
      congr 1
      omega
    · rw [if_neg (by omega), if_pos (by omega), if_neg z]
  · rw [if_neg e] at hk
    rw [if_neg e, if_neg e, cT_app, List.length_take]
    by_cases z : k < D
    · rw [if_pos (by omega), if_pos z, cT_at (by rw [List.length_take]; omega), cT_at (by omega), List.getElem_take]
    · rw [if_neg (by omega), if_pos (by omega), if_neg z]
theorem nx_lgT {B : Bas} {P Q : Nat → Nat} {T : List Nat} {S : Nat → Nat → Nat} {D c : Nat} (h : lgT B P T S D) (hc : c < 400) (hb : c / 32 < bn B) (hQ : stC B Q) (hu : Q = updN P (c / 32) (Q (c / 32))) (hq : ((Q (c / 32) : Nat) : Int) = (P (c / 32) : Int) + (c % 8 : Nat) * stI (c / 8 % 4)) : lgT B Q (nxT T D c) (nxS S D Q) (nxD D) := by
  obtain ⟨h1, h2, h3, h4, h5⟩ := h
  have len := nxT_len (c := c) h1 h2
  refine ⟨?_, ?_, ?_, ?_, ?_⟩
  · rw [len]; unfold nxD; split <;> omega
  · rw [len]; exact Nat.le_refl _
  · unfold nxS nxD
    by_cases e : D = 60
    · rw [if_pos e, if_pos e, if_neg (by decide)]
    · rw [if_neg e, if_neg e, if_neg (by omega)]
  · intro k hk
    rw [len] at hk
    unfold nxD at hk
    unfold nxS
    by_cases e : D = 60
    · rw [if_pos e] at hk ⊢
      by_cases z : k < 60
      · rw [if_pos z]; exact h4 (k + 1) (by omega)
      · rw [if_neg z]; exact hQ
    · rw [if_neg e] at hk ⊢
      by_cases z : k ≤ D
      · rw [if_pos z]; exact h4 k (by omega)
      · rw [if_neg z]; exact hQ
  · intro k hk
    rw [len] at hk
    rw [nxT_at h1 h2 hk]
    unfold nxD at hk
    unfold nxS
    by_cases e : D = 60
    · rw [if_pos e] at hk
      simp only [if_pos e]
      by_cases z : k < 59
      · rw [if_pos z, if_pos (show k + 1 < 60 by omega), if_pos (show k < 60 by omega)]
        exact h5 (k + 1) (by omega)
      · have hk59 : k = 59 := by omega
        subst hk59
        rw [if_neg z, if_neg (show ¬ 59 + 1 < 60 by decide), if_pos (show 59 < 60 by decide)]
        have e2 : S (59 + 1) = P := by rw [← h3, e]
        rw [e2]
        exact ⟨hc, hb, hu, hq⟩
    · rw [if_neg e] at hk
      simp only [if_neg e]
      by_cases z : k < D
      · rw [if_pos z, if_pos (show k + 1 ≤ D by omega), if_pos (show k ≤ D by omega)]
        exact h5 k (by omega)
      · have hkD : k = D := by omega
        subst hkD
        rw [if_neg z, if_neg (show ¬ k + 1 ≤ k by omega), if_pos (Nat.le_refl _), h3]
        exact ⟨hc, hb, hu, hq⟩
theorem nx_lgC {T : List Nat} {D c : Nat} {kf kd ku : Int32} {km : Nat → Int32} (h1 : T.length ≤ 60) (h2 : D ≤ T.length) (h : lgC T D kf kd ku km) : ∃ kf₉ kd₉ ku₉ km₉, f_Log_note (nI c) kf kd ku km = some (kf₉, kd₉, ku₉, km₉) ∧ lgC (nxT T D c) (nxD D) kf₉ kd₉ ku₉ km₉ := by
  obtain ⟨f, e1, f60, e2, e3, e4⟩ := h
  subst e1; subst e2
  have len := nxT_len (c := c) h1 h2
  unfold f_Log_note
  have J : ∀ g d, g < 60 → d < 60 → f_Log_note_J37 (nI c) (nI g) (nI d) 0 km = some (nI g, nI (d + 1), 0, upd km ((g + d) % 60) (nI c)) := by
    intro g d hg hd
    unfold f_Log_note_J37
    rw [ev_div _ (by decide), nI_add, rem60 (by omega), ev_grdN _ (show (g + d) % 60 < 60 by omega) (by decide), ev_bnd, nI_1, nI_clamp (by omega)]
  by_cases e : D = 60
  · subst e
    rw [if_pos (show nI 60 = 60 from rfl), ev_div _ (by decide), ev_bnd, ev_bnd, nI_1, rem60 (by omega), show nI 60 - 1 = nI 59 by decide, J _ _ (by omega) (by decide)]
    refine ⟨_, _, _, _, rfl, (f + 1) % 60, rfl, by omega, rfl, by rw [len]; rfl, fun k hk => ?_⟩
    rw [len] at hk
    rw [nxT_at h1 h2 hk, if_pos rfl]
    have hk60 : k < 60 := hk
    by_cases z : k < 59
    · rw [if_pos z, pk_un (by omega), show ((f + 1) % 60 + k) % 60 = (f + (k + 1)) % 60 by omega]
      exact e4 (k + 1) (by omega)
    · rw [if_neg z, show k = 59 by omega, pk_us]
  · have D60 : D < 60 := by omega
    have ne : ¬ nI D = 60 := fun z => e ((nI_eq (b := 60) (by omega) (by decide)).mp z)
    rw [if_neg ne, J f D f60 D60]
    refine ⟨_, _, _, _, rfl, f, rfl, f60, by unfold nxD; rw [if_neg e], by rw [len]; simp; rfl, fun k hk => ?_⟩
    rw [len] at hk
    rw [nxT_at h1 h2 hk, if_neg e]
    have hk₉ : k < D + 1 := by unfold nxD at hk; rw [if_neg e] at hk; exact hk
    by_cases z : k < D
    · rw [if_pos z, pk_un (by omega)]
      exact e4 k (by omega)
    · rw [if_neg z, show k = D by omega, pk_us]
end
section
/-! Sliding: the class's slides and tellWhy, the reference's slides. -/
theorem nxt32 {B : Bas} {P : Nat → Nat} {b d s : Nat} (h : basOk B) (hs : stOk B P) (hb : b < bn B) (hd : d < 4) (hk : s ≤ room B P b d false) : nI (P b) + nI s * sv_STEP d = nI (nxtk d (P b) s) := by
  have r7 := room_le (B := B) (P := P) (b := b) (d := d) (bk := false)
  rw [(step32 (P b) (ins_64 h hs.1 hb) s (by omega) d hd).1, ← ofInt_nI]
  refine congrArg Int32.ofInt ?_
  have := (room_st (bk := false) h hs hb hd hk).2
  unfold stI
  omega
theorem mv_st {B : Bas} {P : Nat → Nat} {b d s : Nat} (h : basOk B) (hP : stC B P) (hb : b < bn B) (hd : d < 4) (hk : s ≤ room B P b d false) : stC B (updN P b (nxtk d (P b) s)) :=
  ⟨(room_st (bk := false) h hP.1 hb hd hk).1, gl_mv (bk := false) h hP hb hd hk⟩
theorem s_slides {B : Bas} {P : Nat → Nat} {b d s D : Nat} {T : List Nat} {cw chh cn : Int32} {cwl ct : Int64} {ck cp cl cg ca cwd chg : Nat → Int32} {cs : Nat → Int64} {lf ld lu : Int32} {lm : Nat → Int32} (h : basOk B) (hP : stC B P) (hc : chX B P cw chh cn cwl ct ck cp cl cg ca cwd chg cs) (h1 : T.length ≤ 60) (h2 : D ≤ T.length) (hl : lgC T D lf ld lu lm) (hb : b < bn B) (hd : d < 4) (hs7 : s ≤ 7) :
    (s ≤ room B P b d false → ∃ kt₉ kp₉ lf₉ ld₉ lu₉ lm₉, f_BargeBasin_slides (nI b) (nI d) (nI s) cw chh cwl ct ck cp ca cwd chg cs lf ld lu lm = some (1, kt₉, kp₉, lf₉, ld₉, lu₉, lm₉) ∧ chT B (updN P b (nxtk d (P b) s)) kt₉ ∧ chP B (updN P b (nxtk d (P b) s)) kp₉ ∧ lgC (nxT T D (32 * b + 8 * d + s)) (nxD D) lf₉ ld₉ lu₉ lm₉) ∧
    (¬ s ≤ room B P b d false → f_BargeBasin_slides (nI b) (nI d) (nI s) cw chh cwl ct ck cp ca cwd chg cs lf ld lu lm = some (0, ct, cp, lf, ld, lu, lm)) := by
  obtain ⟨c1, c2, c3, c4, c5, c6, c7, c8, c9⟩ := hc
  subst c1; subst c2; subst c3
  have n12 := h.2.2.2.2.1
  have r7 := room_le (B := B) (P := P) (b := b) (d := d) (bk := false)
  have sf := s_stepsFrom (bk := false) h hP.1 c6 c7 c5 c4 hb hd
  rw [show bI false = (0 : Int32) from rfl] at sf
  constructor
  · intro hk
    obtain ⟨kt₉, e1, t1, p1⟩ := s_shift h hP.1 (mv_st h hP hb hd hk).1 c6 c7 c5 hb hd (nxt32 h hP.1 hb hd hk)
    obtain ⟨lf₉, ld₉, lu₉, lm₉, e2, q2⟩ := nx_lgC (c := 32 * b + 8 * d + s) h1 h2 hl
    refine ⟨kt₉, _, lf₉, ld₉, lu₉, lm₉, ?_, t1, p1, q2⟩
    unfold f_BargeBasin_slides
    rw [ev_b _ sf, if_pos (nI_le hk (by omega)), ev_b _ e1, un2_ap, ev_b _ (s_moveOf b (by omega) d hd s (by omega)), ev_b _ e2, un4_ap]
  · intro hk
    unfold f_BargeBasin_slides
    rw [ev_b _ sf, if_neg (nI_ge (by omega) (by omega))]
/-- who hinders where the way ends -/
def whoW (B : Bas) (P : Nat → Nat) (b d q r : Nat) (o : Option Nat) : Prop :=
  (r = 4 → fstI (bn B) (fun c => decide (¬ some b = some c) && anyF (fun f => fbA B P c f && inB (nxt d q % 8) (nxt d q / 8) (xW B b) (xH B b) f)) o) ∧
  (r = 5 → fstI (bn B) (fun c => decide (¬ some b = some c) && anyF (fun f => fbA B P c f && nextTo q f)) o) ∧ (r ≠ 4 → r ≠ 5 → o = none)
theorem whoW_u {B : Bas} {P : Nat → Nat} {b d q r : Nat} {o o₉ : Option Nat} (h1 : whoW B P b d q r o) (h2 : whoW B P b d q r o₉) : o = o₉ := by
  by_cases e4 : r = 4
  · exact fst_u (h1.1 e4) (h2.1 e4)
  · by_cases e5 : r = 5
    · exact fst_u (h1.2.1 e5) (h2.2.1 e5)
    · rw [h1.2.2 e4 e5, h2.2.2 e4 e5]
theorem s_tellWhy {B : Bas} {P : Nat → Nat} {b d : Nat} {cw chh cn : Int32} {cwl ct : Int64} {ck cp cl cg ca cwd chg : Nat → Int32} {cs : Nat → Int64} (h : basOk B) (hP : stC B P) (hc : chX B P cw chh cn cwl ct ck cp cl cg ca cwd chg cs) (hb : b < bn B) (hd : d < 4) (w1 w2 w3 : Int32) :
    ∃ o, f_BargeBasin_tellWhy (nI b) (nI d) w1 w2 w3 cw chh cn cwl ct ck cp ca cwd chg cs = some (nI (room B P b d false + 1), nI (hnd B P b d (nxtk d (P b) (room B P b d false)) false), oI o) ∧ whoW B P b d (nxtk d (P b) (room B P b d false)) (hnd B P b d (nxtk d (P b) (room B P b d false)) false) o := by
  obtain ⟨c1, c2, c3, c4, c5, c6, c7, c8, c9⟩ := hc
  subst c1; subst c2; subst c3
  obtain ⟨a1, a2, a3, a4, a5, a6, a7, a8⟩ := basOk_wh h hb
  have n12 := h.2.2.2.2.1
  have r7 := room_le (B := B) (P := P) (b := b) (d := d) (bk := false)
  have sf := s_stepsFrom (bk := false) h hP.1 c6 c7 c5 c4 hb hd
  rw [show bI false = (0 : Int32) from rfl] at sf
  have q64 := room_64 h hP.1 hb hd (Nat.le_refl (room B P b d false))
  have nx := nxt32 h hP.1 hb hd (Nat.le_refl _)
  have sh := s_hnd (bk := false) h hP.1 c6 c7 c5 c4 hb hd q64
  rw [show bI false = (0 : Int32) from rfl] at sh
  have lt := hnd_lt (B := B) (P := P) (b := b) (d := d) (q := nxtk d (P b) (room B P b d false)) (bk := false)
  have ev : ∀ o, f_Chart_hinderer (nI b) (nI (nxtk d (P b) (room B P b d false))) (nI d) (nI (hnd B P b d (nxtk d (P b) (room B P b d false)) false)) (nI (bn B)) cp cs = some o → f_BargeBasin_tellWhy (nI b) (nI d) w1 w2 w3 (nI (bw B)) (nI (bh B)) (nI (bn B)) cwl ct ck cp ca cwd chg cs = some (nI (room B P b d false + 1), nI (hnd B P b d (nxtk d (P b) (room B P b d false)) false), o) := by
    intro o ho
    unfold f_BargeBasin_tellWhy
    rw [ev_b _ sf, ev_grdN _ a1 (by decide), ev_grdN _ hd (by decide), ev_bnd, ev_bnd, cl_nI a1, nI_clamp (show d < 2 ^ 31 by omega), c7 b hb, nx, nI_1, ev_b _ sh, ev_b _ ho]
  generalize hq : nxtk d (P b) (room B P b d false) = q at *
  generalize hr : hnd B P b d q false = r at *
  by_cases e4 : r = 4
  · have gi : goIn (bw B) (bh B) (xW B b) (xH B b) d q = true := by
      subst e4
      unfold hnd hindA at hr
      by_cases a : (bK B b = 1 ∨ bK B b = 5) ∧ ¬ (bY B b = 1 ↔ d % 2 = 0)
      · rw [if_pos a] at hr; cases hr
      · rw [if_neg a] at hr
        by_cases g : goIn (bw B) (bh B) (xW B b) (xH B b) d q = false
        · rw [if_pos g] at hr; cases hr
        · simpa using g
    obtain ⟨g1, g2, g3, g4, g5⟩ := goIn_t h.2.1 h.2.2.2.1 a4 a6 hd gi
    obtain ⟨o, e, f⟩ := s_firstIn (x := jlshl (shp (xW B b) (xH B b)) (nI (nxt d q))) (but := some b) h hP.1.1 c6 c7 (fun c hc => by cases hc; exact a1)
    have f₉ : fstI (bn B) (fun c => decide (¬ some b = some c) && anyF (fun f => fbA B P c f && inB (nxt d q % 8) (nxt d q / 8) (xW B b) (xH B b) f)) o := by
      have : (fun c => decide (¬ some b = some c) && anyF (fun f => fbA B P c f && tb (jlshl (shp (xW B b) (xH B b)) (nI (nxt d q))) f)) = (fun c => decide (¬ some b = some c) && anyF (fun f => fbA B P c f && inB (nxt d q % 8) (nxt d q / 8) (xW B b) (xH B b) f)) := by
        funext c
        rw [anyF_cg (fun f hf => by rw [shp_at g1 a5 a7 (by have := h.2.1; omega) hf])]
      rw [this] at f
      exact f
    refine ⟨o, ev _ ?_, fun _ => f₉, fun z => by omega, fun z => absurd e4 z⟩
    unfold f_Chart_hinderer
    rw [if_pos (show nI r = 4 by rw [e4]; rfl), ev_grdN _ a1 (by decide), ev_grdN _ hd (by decide), cl_nI a1, nI_clamp (show d < 2 ^ 31 by omega), (c6 b hb).2.2.2.2, geo_s q q64 d hd (by omega) (by omega), ev_b _ (show f_Chart_firstIn (jlshl (shp (xW B b) (xH B b)) (nI (nxt d q))) (nI b) (nI (bn B)) cp cs = _ from e)]
  · by_cases e5 : r = 5
    · obtain ⟨x, hx, bx⟩ := s_beside q q64
      obtain ⟨o, e, f⟩ := s_firstIn (x := x) (but := some b) h hP.1.1 c6 c7 (fun c hc => by cases hc; exact a1)
      have f₉ : fstI (bn B) (fun c => decide (¬ some b = some c) && anyF (fun f => fbA B P c f && nextTo q f)) o := by
        have : (fun c => decide (¬ some b = some c) && anyF (fun f => fbA B P c f && tb x f)) = (fun c => decide (¬ some b = some c) && anyF (fun f => fbA B P c f && nextTo q f)) := by
          funext c
          rw [anyF_cg (fun f hf => by rw [bx f hf])]
        rw [this] at f
        exact f
      refine ⟨o, ev _ ?_, fun z => by omega, fun _ => f₉, fun _ z => absurd e5 z⟩
      unfold f_Chart_hinderer
      rw [if_neg (show ¬ nI r = 4 by rw [e5]; decide), if_pos (show nI r = 5 by rw [e5]; rfl), ev_b _ hx, ev_b _ (show f_Chart_firstIn x (nI b) (nI (bn B)) cp cs = _ from e)]
    · refine ⟨none, ev _ ?_, fun z => absurd z e4, fun z => absurd z e5, fun _ _ => rfl⟩
      unfold f_Chart_hinderer
      rw [if_neg (show ¬ nI r = 4 from fun z => e4 ((nI_eq (b := 4) (by omega) (by decide)).mp z)), if_neg (show ¬ nI r = 5 from fun z => e5 ((nI_eq (b := 5) (by omega) (by decide)).mp z))]; rfl
/-- with b elsewhere the same others hinder -/
theorem fst_upd {B : Bas} {P : Nat → Nat} {b q : Nat} {A : Nat → Bool} : (fun c => decide (¬ some b = some c) && anyF (fun f => fbA B (updN P b q) c f && A f)) = (fun c => decide (¬ some b = some c) && anyF (fun f => fbA B P c f && A f)) := by
  funext c
  by_cases e : c = b
  · subst e; simp
  · rw [anyF_cg (fun f hf => by rw [fb_un e])]
theorem m_who {B : Bas} {P : Nat → Nat} {b d : Nat} {kwl kk ks ky kwho kh : Nat → Int32} (h : basOk B) (hs : stOk B P) (hr : rfB B kk ks ky) (ho : rfO B P kwho) (hp : chP B P kh) (hb : b < bn B) (hd : d < 4) :
    (hnd B P b d (P b) false = 5 → ∃ o, f_BargeBasinModel_beside (nI b) (nI (bw B)) (nI (bh B)) kwho kh = some (oI o) ∧ fstI (bn B) (fun c => decide (¬ some b = some c) && anyF (fun f => fbA B P c f && nextTo (P b) f)) o) ∧
    (hnd B P b d (P b) false = 4 → ∃ o, f_BargeBasinModel_least (nI b) (nI d) kk ks ky kwho kh = some (oI o) ∧ fstI (bn B) (fun c => decide (¬ some b = some c) && anyF (fun f => fbA B P c f && inB (nxt d (P b) % 8) (nxt d (P b) / 8) (xW B b) (xH B b) f)) o) := by
  obtain ⟨a1, a2, a3, a4, a5, a6, a7, a8⟩ := basOk_wh h hb
  obtain ⟨r1, r2, r3⟩ := hr b hb
  have n12 := h.2.2.2.2.1
  have p64 := ins_64 h hs.1 hb
  have w12 : ∀ f c, whoN (fbA B P) (bn B) f = some c → c < 12 := fun f c e => by have := whoN_mem e; omega
  have gi : hnd B P b d (P b) false = 4 ∨ hnd B P b d (P b) false = 5 → goIn (bw B) (bh B) (xW B b) (xH B b) d (P b) = true ∧ (hnd B P b d (P b) false = 5 → bK B b = 4) ∧ (hnd B P b d (P b) false = 4 → anyF (fun f => inB (nxt d (P b) % 8) (nxt d (P b) / 8) (xW B b) (xH B b) f && otA B P b f) = true) := by
    unfold hnd hindA
    by_cases a : (bK B b = 1 ∨ bK B b = 5) ∧ ¬ (bY B b = 1 ↔ d % 2 = 0)
    · rw [if_pos a]; intro z; omega
    · rw [if_neg a]
      by_cases g : goIn (bw B) (bh B) (xW B b) (xH B b) d (P b) = false
      · rw [if_pos g]; intro z; omega
      · rw [if_neg g]
        by_cases h3 : anyF (fun f => inB (nxt d (P b) % 8) (nxt d (P b) / 8) (xW B b) (xH B b) f && bwl B f) = true
        · rw [if_pos h3]; intro z; omega
        · rw [if_neg h3]
          by_cases h4 : anyF (fun f => inB (nxt d (P b) % 8) (nxt d (P b) / 8) (xW B b) (xH B b) f && otA B P b f) = true
          · rw [if_pos h4]; intro _; exact ⟨by simpa using g, fun z => by omega, fun _ => h4⟩
          · rw [if_neg h4]
            by_cases h5 : bK B b = 4 ∧ anyF (fun f => nextTo (if false = true then nxt d (P b) else P b) f && otA B P b f) = true
            · rw [if_pos h5]; intro _; exact ⟨by simpa using g, fun _ => h5.1, fun z => by omega⟩
            · rw [if_neg h5]; intro z; omega
  constructor
  · intro e
    obtain ⟨-, k4, -⟩ := gi (Or.inr e)
    obtain ⟨w1, w2⟩ := a8 (k4 e)
    refine ⟨_, m_beside a1 p64 h.2.1 h.2.2.2.1 (hp b hb) ho w12, bes_fst h hs p64 ?_⟩
    intro f hf hn e₉
    have m := (whoN_mem e₉).2
    simp only [fbA, w1, w2, inB, Bool.and_eq_true, decide_eq_true_eq] at m
    simp only [nextTo, decide_eq_true_eq] at hn
    omega
  · intro e
    obtain ⟨g, -, an⟩ := gi (Or.inl e)
    obtain ⟨g1, g2, g3, g4, g5⟩ := goIn_t h.2.1 h.2.2.2.1 a4 a6 hd g
    have w8 := h.2.1
    have h8 := h.2.2.2.1
    have ex : dxN d (P b) = nxt d (P b) % 8 := by unfold dxN; omega
    have ey : dyN d (P b) = nxt d (P b) / 8 := by unfold dyN; omega
    obtain ⟨m, e1, q1, q2, q3⟩ := m_leL39 (X := nxt d (P b) % 8) (Y := nxt d (P b) / 8) a1 (m_wide a1 r1 r2 r3 a2 a3) (m_tall a1 r1 r2 r3 a2 a3) ho w12 (show nxt d (P b) % 8 + xW B b ≤ 8 by omega) (show nxt d (P b) / 8 + xH B b ≤ 8 by omega) (xH B b) (nxt d (P b) / 8) jN 12 rfl (by show xH B b < 2000000; omega) (Nat.le_refl _)
    obtain ⟨f, hf, y⟩ := anyF_t.mp (an e)
    rw [Bool.and_eq_true, otA_t] at y
    obtain ⟨y1, c, c1, c2, c3⟩ := y
    have inb := y1
    simp only [inB, Bool.and_eq_true, decide_eq_true_eq] at inb
    have wf : whoN (fbA B P) (bn B) (f % 8 + 8 * (f / 8)) = some c := by
      rw [Nat.mod_add_div]; exact (whoN_some hs.2.1 hf).mpr ⟨c1, c3⟩
    have mc := q3 (f / 8) (f % 8) c (by omega) (show f / 8 < nxt d (P b) / 8 + xH B b by omega) (by omega) (show f % 8 < nxt d (P b) % 8 + xW B b by omega) wf c2
    refine ⟨some m, ?_, ?_, fun z => by cases z⟩
    · unfold f_BargeBasinModel_least
      rw [ev_grdN _ a1 (by decide), ev_div _ (by decide), ev_b _ (m_right d hd), ev_bnd, ev_grdN _ a1 (by decide), ev_div _ (by decide), ev_b _ (m_down d hd), ev_bnd, cl_nI a1, hp b hb, geo_r8 (by omega), geo_d8 (by omega), geo_rx _ p64 d hd (by omega), geo_ry _ p64 d hd (by omega), ex, ey, ev_b _ (show f_BargeBasinModel_least_L39 (nI b) (nI (nxt d (P b) % 8)) (nI (nxt d (P b) / 8)) kk ks ky kwho jN 12 (nI (nxt d (P b) / 8)) = _ from e1)]
      rfl
    · intro c₉ hc₉
      cases hc₉
      rcases q2 with z | ⟨z, x, z1, z2, x1, x2, x3, x4⟩
      · omega
      · have mm := whoN_mem x3
        have z2₉ : z < nxt d (P b) / 8 + xH B b := z2
        have x2₉ : x < nxt d (P b) % 8 + xW B b := x2
        refine ⟨mm.1, ?_, ?_⟩
        · rw [Bool.and_eq_true, anyF_t]
          refine ⟨by rw [decide_eq_true_eq]; intro q; cases q; exact x4 rfl, x + 8 * z, by omega, ?_⟩
          rw [mm.2, Bool.true_and]
          simp only [inB, Bool.and_eq_true, decide_eq_true_eq]
          omega
        · intro a ha
          rw [← Bool.not_eq_true]
          intro q
          rw [Bool.and_eq_true, anyF_t, decide_eq_true_eq] at q
          obtain ⟨qa, f₉, hf₉, q₉⟩ := q
          rw [Bool.and_eq_true] at q₉
          have inb₉ := q₉.2
          simp only [inB, Bool.and_eq_true, decide_eq_true_eq] at inb₉
          have := q3 (f₉ / 8) (f₉ % 8) a (by omega) (show f₉ / 8 < nxt d (P b) / 8 + xH B b by omega) (by omega) (show f₉ % 8 < nxt d (P b) % 8 + xW B b by omega) (by rw [Nat.mod_add_div]; exact (whoN_some hs.2.1 hf₉).mpr ⟨by omega, q₉.1⟩) (fun z => qa (by rw [z]))
          omega
end
section
/-! slides of the reference; slide of both. -/
theorem m_slL7 {B : Bas} {P : Nat → Nat} {b d s : Nat} {kwl kk ks ky : Nat → Int32} (h : basOk B) (hs : stOk B P) (hr : rfB B kk ks ky) (hwl : rfW B kwl) (hb : b < bn B) (hd : d < 4) (hs7 : s ≤ 7) :
    ∀ (r k n : Nat) (kwho kh : Nat → Int32), k + r = min s (room B P b d false) → r < n → rfO B (updN P b (nxtk d (P b) k)) kwho → chP B (updN P b (nxtk d (P b) k)) kh →
      ∃ kwho₉ kh₉, (s ≤ room B P b d false → f_BargeBasinModel_slides_L7 (nI b) (nI d) (nI s) (nI (bw B)) (nI (bh B)) kwl kk ks ky n (nI (k + 1)) kwho kh = some (.inr (kwho₉, kh₉)) ∧ chP B (updN P b (nxtk d (P b) s)) kh₉) ∧
        (¬ s ≤ room B P b d false → f_BargeBasinModel_slides_L7 (nI b) (nI d) (nI s) (nI (bw B)) (nI (bh B)) kwl kk ks ky n (nI (k + 1)) kwho kh = some (.inl (nI (room B P b d false + 1), nI (hnd B P b d (nxtk d (P b) (room B P b d false)) false), kwho₉, kh₉)) ∧ rfO B (updN P b (nxtk d (P b) (room B P b d false))) kwho₉ ∧ chP B (updN P b (nxtk d (P b) (room B P b d false))) kh₉) := by
  have r7 := room_le (B := B) (P := P) (b := b) (d := d) (bk := false)
  intro r
  induction r with
  | zero =>
    intro k n kwho kh h1 h2 h3 h4
    obtain ⟨n, rfl⟩ : ∃ z, n = z + 1 := ⟨n - 1, by omega⟩
    refine ⟨kwho, kh, fun hk => ?_, fun hk => ?_⟩
    · have : k = s := by omega
      subst this
      exact ⟨by rw [f_BargeBasinModel_slides_L7, if_pos (nI_lt (by omega) (by omega))], h4⟩
    · have : k = room B P b d false := by omega
      subst this
      have s1 := (room_st (bk := false) h hs hb hd (Nat.le_refl _)).1
      have ne : hnd B P b d (nxtk d (P b) (room B P b d false)) false ≠ 0 := room_stop h hs hb hd
      have lt := hnd_lt (B := B) (P := P) (b := b) (d := d) (q := nxtk d (P b) (room B P b d false)) (bk := false)
      have mh := m_hnd h s1 hr hwl h3 h4 hb hd
      rw [hnd_upd, updN_s] at mh
      refine ⟨?_, h3, h4⟩
      rw [f_BargeBasinModel_slides_L7, if_neg (nI_nlt (by omega) (by omega)), ev_b _ mh, if_neg (nI_nle (by omega) (by omega))]
  | succ r ih =>
    intro k n kwho kh h1 h2 h3 h4
    obtain ⟨n, rfl⟩ : ∃ z, n = z + 1 := ⟨n - 1, by omega⟩
    have s1 := (room_st (bk := false) h hs hb hd (k := k) (by omega)).1
    have w0 : hnd B (updN P b (nxtk d (P b) k)) b d (updN P b (nxtk d (P b) k) b) false = 0 := by
      rw [hnd_upd, updN_s]
      exact room_way (by omega)
    obtain ⟨kwho1, e1, o1⟩ := m_step h s1 hr h3 h4 hb hd w0
    have pos : updN (updN P b (nxtk d (P b) k)) b (nxt d (updN P b (nxtk d (P b) k) b)) = updN P b (nxtk d (P b) (k + 1)) := by rw [updN_two, updN_s, nxtk_s]
    rw [pos] at o1
    have c1 : chP B (updN P b (nxtk d (P b) (k + 1))) (upd kh b (nI (nxt d (updN P b (nxtk d (P b) k) b)))) := by
      rw [← pos]; exact chP_upd h4
    have ev : ∀ X, f_BargeBasinModel_slides_L7 (nI b) (nI d) (nI s) (nI (bw B)) (nI (bh B)) kwl kk ks ky n (nI (k + 1 + 1)) kwho1 (upd kh b (nI (nxt d (updN P b (nxtk d (P b) k) b)))) = X → f_BargeBasinModel_slides_L7 (nI b) (nI d) (nI s) (nI (bw B)) (nI (bh B)) kwl kk ks ky (n + 1) (nI (k + 1)) kwho kh = X := by
      intro X hX
      rw [f_BargeBasinModel_slides_L7, if_neg (nI_nlt (by omega) (by omega)), ev_b _ (m_hnd h s1 hr hwl h3 h4 hb hd), w0, nI_0, if_pos (show (0 : Int32) ≤ 0 by decide), ev_b _ e1, un2_ap, ev_bnd, nI_1]
      exact hX
    obtain ⟨kw2, kh2, e2, e3⟩ := ih (k + 1) n kwho1 _ (by omega) (by omega) o1 c1
    exact ⟨kw2, kh2, fun hk => ⟨ev _ (e2 hk).1, (e2 hk).2⟩, fun hk => ⟨ev _ (e3 hk).1, (e3 hk).2⟩⟩
theorem m_slL98 {v1 : Int32} (ub uf ut : Nat → Int32) : ∀ (r i n : Nat) (b f t : Nat → Int32), i + r = 60 → 1 ≤ i → r < n → (∀ k, k + 1 < i → b k = ub (k + 1) ∧ f k = uf (k + 1) ∧ t k = ut (k + 1)) → (∀ k, i ≤ k + 1 → b k = ub k ∧ f k = uf k ∧ t k = ut k) →
    ∃ b₉ f₉ t₉, f_BargeBasinModel_slides_L98 v1 n (nI i) b f t = some (b₉, f₉, t₉) ∧ ∀ k, k < 59 → b₉ k = ub (k + 1) ∧ f₉ k = uf (k + 1) ∧ t₉ k = ut (k + 1) := by
  intro r
  induction r with
  | zero =>
    intro i n b f t h1 h2 h3 h4 h5
    obtain ⟨n, rfl⟩ : ∃ z, n = z + 1 := ⟨n - 1, by omega⟩
    exact ⟨b, f, t, by rw [f_BargeBasinModel_slides_L98, if_pos (show (60 : Int32) ≤ nI i from nI_le (a := 60) (by omega) (by omega))], fun k hk => h4 k (by omega)⟩
  | succ r ih =>
    intro i n b f t h1 h2 h3 h4 h5
    obtain ⟨n, rfl⟩ : ∃ z, n = z + 1 := ⟨n - 1, by omega⟩
    have im : nI i - 1 = nI (i - 1) := pk_sub (a := i) (b := 1) h2
    rw [f_BargeBasinModel_slides_L98, if_neg (show ¬ (60 : Int32) ≤ nI i from nI_ge (b := 60) (by omega) (by decide)), im]
    simp only [ev_grdN _ (show i < 60 by omega) (show 60 < 2 ^ 31 by decide), ev_grdN _ (show i - 1 < 60 by omega) (show 60 < 2 ^ 31 by decide), ev_bnd, nI_1, nI_clamp (show i < 2 ^ 31 by omega), nI_clamp (show i - 1 < 2 ^ 31 by omega)]
    obtain ⟨a1, a2, a3⟩ := h5 i (by omega)
    refine ih (i + 1) n _ _ _ (by omega) (by omega) (by omega) (fun k hk => ?_) (fun k hk => ?_)
    · by_cases z : k = i - 1
      · subst z
        rw [pk_us, pk_us, pk_us, a1, a2, a3, show i - 1 + 1 = i by omega]
        exact ⟨rfl, rfl, rfl⟩
      · rw [pk_un z, pk_un z, pk_un z]; exact h4 k (by omega)
    · rw [pk_un (by omega), pk_un (by omega), pk_un (by omega)]; exact h5 k (by omega)
theorem m_slides {B : Bas} {P : Nat → Nat} {b d s D : Nat} {T : List Nat} {S : Nat → Nat → Nat} {kwl kk kat ks ky : Nat → Int32} {um rm : Int32} {ub uf ut rb rf rt : Nat → Int32} (h : basOk B) (hP : stC B P) (hr : rfB B kk ks ky) (hwl : rfW B kwl) (hp : chP B P kat) (hT : lgT B P T S D) (hl : lgM T S D um rm ub uf ut rb rf rt) (hb : b < bn B) (hd : d < 4) (hs7 : s ≤ 7) (w1 w2 w3 : Int32) (kwho kh : Nat → Int32) :
    (s ≤ room B P b d false → ∃ um₉ rm₉ kat₉ ub₉ uf₉ ut₉ kwho₉ kh₉, f_BargeBasinModel_slides (nI b) (nI d) (nI s) (nI (bw B)) (nI (bh B)) (nI (bn B)) um rm w1 w2 w3 kwl kk kat ks ky ub uf ut kwho kh = some (1, um₉, rm₉, w1, w2, w3, kat₉, ub₉, uf₉, ut₉, kwho₉, kh₉) ∧ chP B (updN P b (nxtk d (P b) s)) kat₉ ∧ lgM (nxT T D (32 * b + 8 * d + s)) (nxS S D (updN P b (nxtk d (P b) s))) (nxD D) um₉ rm₉ ub₉ uf₉ ut₉ rb rf rt) ∧
    (¬ s ≤ room B P b d false → ∃ o kwho₉ kh₉, f_BargeBasinModel_slides (nI b) (nI d) (nI s) (nI (bw B)) (nI (bh B)) (nI (bn B)) um rm w1 w2 w3 kwl kk kat ks ky ub uf ut kwho kh = some (0, um, rm, nI (room B P b d false + 1), nI (hnd B P b d (nxtk d (P b) (room B P b d false)) false), oI o, kat, ub, uf, ut, kwho₉, kh₉) ∧ whoW B P b d (nxtk d (P b) (room B P b d false)) (hnd B P b d (nxtk d (P b) (room B P b d false)) false) o) := by
  have n12 := h.2.2.2.2.1
  obtain ⟨kw1, kh1, e1, o1, p1⟩ := m_layAllB h hP.1.1 hr hp kwho kh
  have z0 : updN P b (nxtk d (P b) 0) = P := updN_self
  have r7 := room_le (B := B) (P := P) (b := b) (d := d) (bk := false)
  obtain ⟨kw2, kh2, A, C⟩ := m_slL7 h hP.1 hr hwl hb hd hs7 (min s (room B P b d false)) 0 jN kw1 kh1 (by omega) (by show _ < 2000000; omega) (by rw [z0]; exact o1) (by rw [z0]; exact p1)
  have b12 : b < 12 := by omega
  constructor
  · intro hk
    obtain ⟨e2, c2⟩ := A hk
    obtain ⟨t1, t2, t3, t4, t5⟩ := hT
    obtain ⟨l1, l2, l3, l4⟩ := hl
    have len := nxT_len (c := 32 * b + 8 * d + s) t1 t2
    have mc := mv_code (b := b) (d := d) (k := s) hd (by omega)
    have qv : kh2 b = nI (nxtk d (P b) s) := by have := c2 b hb; rw [updN_s] at this; exact this
    have fin : ∀ (E : Nat) (b₉ f₉ t₉ : Nat → Int32), E < 60 → f_BargeBasinModel_slides_J169 (nI b) (nI E) rm w1 w2 w3 kat b₉ f₉ t₉ kw2 kh2 = some (1, nI (E + 1), 0, w1, w2, w3, upd kat b (nI (nxtk d (P b) s)), upd b₉ E (nI b), upd f₉ E (nI (P b)), upd t₉ E (nI (nxtk d (P b) s)), kw2, kh2) := by
      intro E b₉ f₉ t₉ hE
      unfold f_BargeBasinModel_slides_J169
      simp only [ev_grdN _ hE (show 60 < 2 ^ 31 by decide), ev_grdN _ b12 (show 12 < 2 ^ 31 by decide), ev_bnd, nI_1, cl_nI b12, nI_clamp (show E < 2 ^ 31 by omega), hp b hb, qv]
    unfold f_BargeBasinModel_slides
    rw [ev_b _ e1, un2_ap, ev_b _ (show f_BargeBasinModel_slides_L7 (nI b) (nI d) (nI s) (nI (bw B)) (nI (bh B)) kwl kk ks ky jN 1 kw1 kh1 = _ from e2), jsel_r, un2_ap, l1]
    by_cases e : D = 60
    · subst e
      obtain ⟨b₉, f₉, t₉, e3, q3⟩ := m_slL98 (v1 := nI b) ub uf ut 59 1 jN ub uf ut (by omega) (Nat.le_refl _) (by decide) (fun k hk => by omega) (fun k _ => ⟨rfl, rfl, rfl⟩)
      rw [if_pos (show nI 60 = 60 from rfl), ev_b _ (show f_BargeBasinModel_slides_L98 (nI b) jN 1 ub uf ut = _ from e3), un3_ap, ev_bnd, show nI 60 - 1 = nI 59 by decide, fin 59 b₉ f₉ t₉ (by decide)]
      refine ⟨_, _, _, _, _, _, _, _, rfl, chP_upd hp, rfl, by rw [len]; rfl, fun k hk => ?_, fun j hj => by rw [len] at hj; have : j < 60 - 60 := hj; omega⟩
      have hk60 : k < 60 := hk
      rw [nxT_at t1 t2 hk, if_pos rfl]
      unfold nxS
      simp only [if_true]
      by_cases z : k < 59
      · obtain ⟨q1, q2, q4⟩ := q3 k z
        rw [if_pos z, if_pos (show k < 60 by omega), if_pos (show k + 1 < 60 by omega), pk_un (by omega), pk_un (by omega), pk_un (by omega), q1, q2, q4]
        exact l3 (k + 1) (by omega)
      · have : k = 59 := by omega
        subst this
        rw [if_neg z, if_pos (show 59 < 60 by decide), if_neg (show ¬ 59 + 1 < 60 by decide), pk_us, pk_us, pk_us, mc.1, show S (59 + 1) = P from t3, updN_s]
        exact ⟨rfl, rfl, rfl⟩
    · have D60 : D < 60 := by omega
      have ne : ¬ nI D = 60 := fun z => e ((nI_eq (b := 60) (by omega) (by decide)).mp z)
      rw [if_neg ne, fin D ub uf ut D60]
      have dd : nxD D = D + 1 := by unfold nxD; rw [if_neg e]
      refine ⟨_, _, _, _, _, _, _, _, rfl, chP_upd hp, by rw [dd], by rw [len]; simp; rfl, fun k hk => ?_, fun j hj => by rw [len] at hj; omega⟩
      rw [nxT_at t1 t2 hk, if_neg e]
      rw [dd] at hk
      unfold nxS
      simp only [if_neg e]
      by_cases z : k < D
      · rw [if_pos z, if_pos (show k ≤ D by omega), if_pos (show k + 1 ≤ D by omega), pk_un (by omega), pk_un (by omega), pk_un (by omega)]
        exact l3 k z
      · have : k = D := by omega
        subst this
        rw [if_neg z, if_pos (Nat.le_refl _), if_neg (show ¬ k + 1 ≤ k by omega), pk_us, pk_us, pk_us, mc.1, t3, updN_s]
        exact ⟨rfl, rfl, rfl⟩
  · intro hk
    obtain ⟨e2, o2, c2⟩ := C hk
    have s1 := (room_st (bk := false) h hP.1 hb hd (Nat.le_refl _)).1
    obtain ⟨w5, w4⟩ := m_who (kwl := kwl) h s1 hr o2 c2 hb hd
    rw [hnd_upd, updN_s] at w5 w4
    rw [fst_upd] at w5 w4
    have lt := hnd_lt (B := B) (P := P) (b := b) (d := d) (q := nxtk d (P b) (room B P b d false)) (bk := false)
    have ev : ∀ x : Int32, (hnd B P b d (nxtk d (P b) (room B P b d false)) false = 5 → f_BargeBasinModel_beside (nI b) (nI (bw B)) (nI (bh B)) kw2 kh2 = some x) → (hnd B P b d (nxtk d (P b) (room B P b d false)) false = 4 → f_BargeBasinModel_least (nI b) (nI d) kk ks ky kw2 kh2 = some x) → (hnd B P b d (nxtk d (P b) (room B P b d false)) false ≠ 4 → hnd B P b d (nxtk d (P b) (room B P b d false)) false ≠ 5 → x = -1) →
        f_BargeBasinModel_slides (nI b) (nI d) (nI s) (nI (bw B)) (nI (bh B)) (nI (bn B)) um rm w1 w2 w3 kwl kk kat ks ky ub uf ut kwho kh = some (0, um, rm, nI (room B P b d false + 1), nI (hnd B P b d (nxtk d (P b) (room B P b d false)) false), x, kat, ub, uf, ut, kw2, kh2) := by
      intro x x5 x4 x0
      unfold f_BargeBasinModel_slides
      rw [ev_b _ e1, un2_ap, ev_b _ (show f_BargeBasinModel_slides_L7 (nI b) (nI d) (nI s) (nI (bw B)) (nI (bh B)) kwl kk ks ky jN 1 kw1 kh1 = _ from e2), jsel_l, un4_ap]
      have d5 : (nI (hnd B P b d (nxtk d (P b) (room B P b d false)) false) = 5) = (hnd B P b d (nxtk d (P b) (room B P b d false)) false = 5) := nI_eqL (j := 5) (by omega) (by decide)
      have d4 : (nI (hnd B P b d (nxtk d (P b) (room B P b d false)) false) = 4) = (hnd B P b d (nxtk d (P b) (room B P b d false)) false = 4) := nI_eqL (j := 4) (by omega) (by decide)
      simp only [d5, d4]
      by_cases y5 : hnd B P b d (nxtk d (P b) (room B P b d false)) false = 5
      · rw [if_pos y5, ev_b _ (x5 y5)]
      · rw [if_neg y5]
        by_cases y4 : hnd B P b d (nxtk d (P b) (room B P b d false)) false = 4
        · rw [if_pos y4, ev_b _ (x4 y4)]
        · rw [if_neg y4, x0 y4 y5]
    by_cases y5 : hnd B P b d (nxtk d (P b) (room B P b d false)) false = 5
    · obtain ⟨o, q1, q2⟩ := w5 y5
      exact ⟨o, kw2, kh2, ev _ (fun _ => q1) (fun z => by omega) (fun _ z => absurd y5 z), fun z => by omega, fun _ => q2, fun _ z => absurd y5 z⟩
    · by_cases y4 : hnd B P b d (nxtk d (P b) (room B P b d false)) false = 4
      · obtain ⟨o, q1, q2⟩ := w4 y4
        exact ⟨o, kw2, kh2, ev _ (fun z => by omega) (fun _ => q1) (fun z => absurd y4 z), fun _ => q2, fun z => by omega, fun z => absurd y4 z⟩
      · exact ⟨none, kw2, kh2, ev _ (fun z => absurd z y5) (fun z => absurd z y4) (fun _ _ => rfl), fun z => absurd z y4, fun z => absurd z y5, fun _ _ => rfl⟩
end
section
/-! slide, undo, redo, why, planned: both sides answer alike. -/
def lgR (B : Bas) (P : Nat → Nat) (lf ld lu : Int32) (lm : Nat → Int32) (um rm : Int32) (ub uf ut rb rf rt : Nat → Int32) : Prop := ∃ T S D, lgT B P T S D ∧ lgC T D lf ld lu lm ∧ lgM T S D um rm ub uf ut rb rf rt
theorem ix3 (v : Int32) {n : Nat} (hn : n < 2 ^ 31) : (v < 0 ∨ nI n ≤ v) ∨ ∃ j, j < n ∧ v = nI j := by
  rcases pk_ix v hn with z | z | z
  · exact Or.inl (Or.inl z)
  · exact Or.inl (Or.inr z)
  · exact Or.inr z
theorem out4 {v : Int32} (h : v < 0 ∨ nI 4 ≤ v) : v < 0 ∨ (¬ v < 0 ∧ (4 : Int32) ≤ v ∧ (3 : Int32) < v ∧ ¬ v < 4 ∧ ¬ v ≤ 3) := by
  have a : (0 : Int32).toInt = 0 := rfl
  have b : (4 : Int32).toInt = 4 := by decide
  have c : (3 : Int32).toInt = 3 := by decide
  have d : (nI 4).toInt = 4 := by decide
  simp only [Int32.lt_iff_toInt_lt, Int32.le_iff_toInt_le, a, b, c, d] at *
  omega
theorem sl_new {B : Bas} {P : Nat → Nat} {b d s : Nat} {T : List Nat} {S : Nat → Nat → Nat} {D : Nat} (h : basOk B) (hP : stC B P) (hT : lgT B P T S D) (hb : b < bn B) (hd : d < 4) (hk : s ≤ room B P b d false) : lgT B (updN P b (nxtk d (P b) s)) (nxT T D (32 * b + 8 * d + s)) (nxS S D (updN P b (nxtk d (P b) s))) (nxD D) := by
  have r7 := room_le (B := B) (P := P) (b := b) (d := d) (bk := false)
  have n12 := h.2.2.2.2.1
  have mc := mv_code (b := b) (d := d) (k := s) hd (by omega)
  refine nx_lgT hT (by omega) (by rw [mc.1]; exact hb) (mv_st h hP hb hd hk) (by rw [mc.1, updN_s]) ?_
  rw [mc.1, mc.2.1, mc.2.2, updN_s]
  exact (room_st (bk := false) h hP.1 hb hd hk).2
theorem eq_slide {B : Bas} {P : Nat → Nat} {cw chh cn : Int32} {cwl ct : Int64} {ck cp cl cg ca cwd chg : Nat → Int32} {cs : Nat → Int64} {khas kw kh kn : Int32} {kwl kk kat ks ky kg : Nat → Int32} {lf ld lu um rm : Int32} {lm ub uf ut rb rf rt : Nat → Int32} (h : basOk B) (hP : stC B P) (hc : chX B P cw chh cn cwl ct ck cp cl cg ca cwd chg cs) (hr : rfX B P khas kw kh kn kwl kk kat ks ky kg) (hl : lgR B P lf ld lu lm um rm ub uf ut rb rf rt) (v1 v2 v3 st st2 th w1 w2 w3 : Int32) (kwho khe : Nat → Int32) :
    ∃ (ans st₉ w1₉ w2₉ w3₉ : Int32) (ct₉ : Int64) (cp₉ : Nat → Int32) (lf₉ ld₉ lu₉ : Int32) (lm₉ : Nat → Int32) (um₉ rm₉ : Int32) (kat₉ ub₉ uf₉ ut₉ kwho₉ khe₉ : Nat → Int32) (Q : Nat → Nat), f_BargeBasin_slide v1 v2 v3 st w1 w2 w3 cw chh cn cwl ct ck cp ca cwd chg cs lf ld lu lm = some (ans, st₉, w1₉, w2₉, w3₉, ct₉, cp₉, lf₉, ld₉, lu₉, lm₉) ∧
      f_BargeBasinModel_slide v1 v2 v3 st2 th khas kw kh kn um rm w1 w2 w3 kwl kk kat ks ky ub uf ut kwho khe = some (ans, st₉, 0, um₉, rm₉, w1₉, w2₉, w3₉, kat₉, ub₉, uf₉, ut₉, kwho₉, khe₉) ∧
      stC B Q ∧ chT B Q ct₉ ∧ chP B Q cp₉ ∧ chP B Q kat₉ ∧ lgR B Q lf₉ ld₉ lu₉ lm₉ um₉ rm₉ ub₉ uf₉ ut₉ rb rf rt := by
  have hc0 := hc
  obtain ⟨c1, c2, c3, c4, c5, c6, c7, c8, c9⟩ := hc
  obtain ⟨r1, r2, r3, r4, r5, r6, r7, r8⟩ := hr
  subst c1; subst c2; subst c3; subst r1; subst r2; subst r3; subst r4
  have n12 := h.2.2.2.2.1
  unfold f_BargeBasin_slide f_BargeBasinModel_slide
  rw [if_neg (show ¬ (1 : Int32) = 0 by decide)]
  rcases ix3 v1 (show bn B < 2 ^ 31 by omega) with z | ⟨b, hb, z⟩
  · rw [ev_b _ (fb_cn h z), ev_b _ (ib_cn z), if_neg (show ¬ (2 : Int32) = 0 by decide), if_pos rfl]
    exact ⟨0, 2, w1, w2, w3, ct, cp, lf, ld, lu, lm, um, rm, kat, ub, uf, ut, kwho, khe, P, rfl, rfl, hP, c5, c7, r7, hl⟩
  · subst z
    rw [ev_b _ (fb_c h hb), ev_b _ (ib_c h hb), if_pos rfl, if_neg (show ¬ (1 : Int32) = 0 by decide)]
    rcases ix3 v2 (show 4 < 2 ^ 31 by decide) with z | ⟨d, hd, z⟩
    · rcases out4 z with y | ⟨y1, y2, y3, -, -⟩
      · rw [if_pos y, if_pos y]
        exact ⟨0, 2, w1, w2, w3, ct, cp, lf, ld, lu, lm, um, rm, kat, ub, uf, ut, kwho, khe, P, rfl, rfl, hP, c5, c7, r7, hl⟩
      · rw [if_neg y1, if_pos y2, if_neg y1, if_pos y3]
        exact ⟨0, 2, w1, w2, w3, ct, cp, lf, ld, lu, lm, um, rm, kat, ub, uf, ut, kwho, khe, P, rfl, rfl, hP, c5, c7, r7, hl⟩
    · subst z
      rw [if_neg (nI_pos (by omega)), if_neg (show ¬ (4 : Int32) ≤ nI d from nI_ge (b := 4) hd (by decide)), if_neg (nI_pos (by omega)), if_neg (show ¬ (3 : Int32) < nI d from nI_nlt (a := 3) (by omega) (by decide))]
      by_cases y1 : v3 < 1
      · rw [if_pos y1, if_pos y1]
        exact ⟨0, 2, w1, w2, w3, ct, cp, lf, ld, lu, lm, um, rm, kat, ub, uf, ut, kwho, khe, P, rfl, rfl, hP, c5, c7, r7, hl⟩
      · rw [if_neg y1, if_neg y1]
        by_cases y2 : v3 ≤ 7
        · rw [if_pos y2, if_pos y2]
          have y0 : ¬ v3 < 0 := fun y => by
            rw [Int32.lt_iff_toInt_lt] at y y1
            have : (0 : Int32).toInt = 0 := rfl
            have : (1 : Int32).toInt = 1 := by decide
            omega
          obtain ⟨s, s7, es⟩ := nI_of2 (M := 7) (n := 7) (by decide) y0 y2
          subst es
          obtain ⟨T, S, D, t1, t2, t3⟩ := hl
          obtain ⟨A1, A2⟩ := s_slides h hP hc0 t1.1 t1.2.1 t2 hb hd s7
          obtain ⟨B1, B2⟩ := m_slides h hP r6 r5 r7 t1 t3 hb hd s7 w1 w2 w3 kwho khe
          by_cases hk : s ≤ room B P b d false
          · obtain ⟨kt₉, kp₉, lf₉, ld₉, lu₉, lm₉, e1, q1, q2, q3⟩ := A1 hk
            obtain ⟨um₉, rm₉, kat₉, ub₉, uf₉, ut₉, kw₉, kh₉, e2, p1, p2⟩ := B1 hk
            rw [ev_b _ e1, un7_ap, ev_b _ e2, un12_ap, if_neg (show ¬ (1 : Int32) = 0 by decide), if_neg (show ¬ (1 : Int32) = 0 by decide)]
            exact ⟨1, 0, w1, w2, w3, kt₉, kp₉, lf₉, ld₉, lu₉, lm₉, um₉, rm₉, kat₉, ub₉, uf₉, ut₉, kw₉, kh₉, _, rfl, rfl, mv_st h hP hb hd hk, q1, q2, p1, _, _, _, sl_new h hP t1 hb hd hk, q3, p2⟩
          · have e1 := A2 hk
            obtain ⟨o, kw₉, kh₉, e2, q2⟩ := B2 hk
            obtain ⟨o₉, e3, q3⟩ := s_tellWhy h hP hc0 hb hd w1 w2 w3
            have eo := whoW_u q3 q2
            subst eo
            rw [ev_b _ e1, un7_ap, ev_b _ e2, un12_ap, if_pos rfl, if_pos rfl, ev_b _ e3, un3_ap]
            exact ⟨0, 9, _, _, _, ct, cp, lf, ld, lu, lm, um, rm, kat, ub, uf, ut, kw₉, kh₉, P, rfl, rfl, hP, c5, c7, r7, T, S, D, t1, t2, t3⟩
        · rw [if_neg y2, if_neg y2]
          exact ⟨0, 2, w1, w2, w3, ct, cp, lf, ld, lu, lm, um, rm, kat, ub, uf, ut, kwho, khe, P, rfl, rfl, hP, c5, c7, r7, hl⟩
theorem eq_why (v1 w1 w2 w3 th : Int32) : ∃ ans, f_BargeBasin_why v1 w1 w2 w3 = some ans ∧ f_BargeBasinModel_why v1 th w1 w2 w3 = some (ans, 0) := by
  unfold f_BargeBasin_why f_BargeBasinModel_why
  by_cases a : v1 = 0
  · rw [if_pos a, if_pos a]; exact ⟨_, rfl, rfl⟩
  · rw [if_neg a, if_neg a]
    by_cases b : v1 = 1
    · rw [if_pos b, if_pos b]; exact ⟨_, rfl, rfl⟩
    · rw [if_neg b, if_neg b]
      by_cases c : v1 = 2
      · rw [if_pos c, if_pos c]; exact ⟨_, rfl, rfl⟩
      · rw [if_neg c, if_neg c]; exact ⟨_, rfl, rfl⟩
/-- the plan on both sides -/
def plR (cs : List Nat) (psz : Int32) (pm : Nat → Int32) (khp kpm : Int32) (pb pw ps : Nat → Int32) : Prop := cs.length < 6000 ∧ (∀ c, c ∈ cs → c < 400) ∧ psz = nI cs.length ∧ wrt pm cs ∧ khp = 1 ∧ kpm = nI cs.length ∧ plW cs pb pw ps
theorem eq_planned {cs : List Nat} {psz khp kpm : Int32} {pm pb pw ps : Nat → Int32} (hp : plR cs psz pm khp kpm pb pw ps) (v1 v2 th : Int32) : ∃ ans, f_BargeBasin_planned_plan11 v1 v2 psz pm = some ans ∧ f_BargeBasinModel_planned v1 v2 th khp kpm pb pw ps = some (ans, 0) := by
  obtain ⟨l, c4, e1, w, e2, e3, pl⟩ := hp
  subst e1; subst e2; subst e3
  unfold f_BargeBasin_planned_plan11 f_BargeBasinModel_planned
  rw [if_neg (show ¬ (1 : Int32) = 0 by decide)]
  by_cases a : v1 < 0
  · rw [if_pos a, if_pos a]; exact ⟨_, rfl, rfl⟩
  · rw [if_neg a, if_neg a]
    by_cases b : v1 < nI cs.length
    · rw [if_pos b, if_pos b]
      obtain ⟨k, hk, ek⟩ := nI_of a
      subst ek
      have hk₉ : k < cs.length := (nI_ltI hk (by omega)).mp b
      obtain ⟨p1, p2, p3⟩ := pl k hk₉
      have c := c4 _ (List.getElem_mem hk₉)
      rw [ev_grdN _ (show k < 6000 by omega) (by decide), ev_grdN _ (show k < 6000 by omega) (by decide), ev_grdN _ (show k < 6000 by omega) (by decide), ev_grdN _ (show k < 6000 by omega) (by decide), ev_bnd, nI_clamp hk, w k hk₉, p1, p2, p3, ev_b _ (s_bargeOf _ c), ev_b _ (s_dirOf _ c), ev_b _ (s_stepsOf _ c)]
      by_cases x : v2 = 0
      · rw [if_pos x, if_pos x]; exact ⟨_, rfl, rfl⟩
      · rw [if_neg x, if_neg x]
        by_cases y : v2 = 1
        · rw [if_pos y, if_pos y]; exact ⟨_, rfl, rfl⟩
        · rw [if_neg y, if_neg y]
          by_cases z : v2 = 2
          · rw [if_pos z, if_pos z]; exact ⟨_, rfl, rfl⟩
          · rw [if_neg z, if_neg z]; exact ⟨_, rfl, rfl⟩
    · rw [if_neg b, if_neg b]; exact ⟨_, rfl, rfl⟩
theorem eq_undo {B : Bas} {P : Nat → Nat} {cw chh cn : Int32} {cwl ct : Int64} {ck cp cl cg ca cwd chg : Nat → Int32} {cs : Nat → Int64} {khas kw kh kn : Int32} {kwl kk kat ks ky kg : Nat → Int32} {lf ld lu um rm : Int32} {lm ub uf ut rb rf rt : Nat → Int32} (h : basOk B) (hP : stC B P) (hc : chX B P cw chh cn cwl ct ck cp cl cg ca cwd chg cs) (hr : rfX B P khas kw kh kn kwl kk kat ks ky kg) (hl : lgR B P lf ld lu lm um rm ub uf ut rb rf rt) (st st2 th : Int32) :
    ∃ (ans st₉ : Int32) (ct₉ : Int64) (cp₉ : Nat → Int32) (ld₉ lu₉ um₉ rm₉ : Int32) (kat₉ rb₉ rf₉ rt₉ : Nat → Int32) (Q : Nat → Nat), f_BargeBasin_undo st cw ct cp cs lf ld lu lm = some (ans, st₉, ct₉, cp₉, ld₉, lu₉) ∧
      f_BargeBasinModel_undo st2 th khas um rm kat ub uf ut rb rf rt = some (ans, st₉, 0, um₉, rm₉, kat₉, rb₉, rf₉, rt₉) ∧
      stC B Q ∧ chT B Q ct₉ ∧ chP B Q cp₉ ∧ chP B Q kat₉ ∧ lgR B Q lf ld₉ lu₉ lm um₉ rm₉ ub uf ut rb₉ rf₉ rt₉ := by
  obtain ⟨c1, c2, c3, c4, c5, c6, c7, c8, c9⟩ := hc
  obtain ⟨r1, r2, r3, r4, r5, r6, r7, r8⟩ := hr
  subst c1; subst c2; subst c3; subst r1; subst r2; subst r3; subst r4
  have n12 := h.2.2.2.2.1
  obtain ⟨T, S, D, t1, t2, t3⟩ := hl
  have t1₉ := t1
  obtain ⟨a1, a2, a3, a4, a5⟩ := t1
  have t2₉ := t2
  obtain ⟨f, f1, f60, f2, f3, f4⟩ := t2
  have t3₉ := t3
  obtain ⟨m1, m2, m3, m4⟩ := t3
  unfold f_BargeBasin_undo f_BargeBasinModel_undo
  rw [if_neg (show ¬ (1 : Int32) = 0 by decide), ev_b _ (noBas h), if_pos rfl, f2, m1]
  by_cases d0 : D = 0
  · rw [if_pos (show nI D = 0 by rw [d0]; rfl), if_pos (show nI D = 0 by rw [d0]; rfl)]
    refine ⟨0, 11, ct, cp, nI D, lu, nI D, rm, kat, rb, rf, rt, P, rfl, rfl, hP, c5, c7, r7, T, S, D, t1₉, ?_, ?_⟩
    · rw [f2] at t2₉; exact t2₉
    · rw [m1] at t3₉; exact t3₉
  · have dn : ¬ nI D = 0 := nI_ne0 (by omega) (by omega)
    obtain ⟨E, rfl⟩ : ∃ E, D = E + 1 := ⟨D - 1, by omega⟩
    obtain ⟨k1, k2, k3, k4⟩ := a5 E (by omega)
    obtain ⟨u1, u2, u3⟩ := m3 E (by omega)
    have sE := a4 E (by omega)
    have back : updN P (cT T E / 32) (S E (cT T E / 32)) = S E := by
      rw [← a3, k3, updN_two]; exact updN_self
    have p64 := ins_64 h hP.1.1 k2
    have hv : nI (P (cT T E / 32)) + (- nI (cT T E % 8)) * sv_STEP (cT T E / 8 % 4) = nI (S E (cT T E / 32)) := by
      rw [(step32 _ p64 (cT T E % 8) (by omega) (cT T E / 8 % 4) (by omega)).2, ← ofInt_nI]
      refine congrArg Int32.ofInt ?_
      rw [← a3, k4]
      omega
    obtain ⟨kt₉, e1, q1, q2⟩ := s_shift h hP.1 (by rw [back]; exact sE.1) c6 c7 c5 k2 (show cT T E / 8 % 4 < 4 by omega) hv
    rw [back] at q1 q2
    have dm : nI (E + 1) - 1 = nI E := nI_pred E
    have lb : f_Log_back (nI f) (nI (E + 1)) (nI (T.length - (E + 1))) lm = some (nI (cT T E), nI E, nI (T.length - E)) := by
      unfold f_Log_back
      rw [ev_bnd, ev_bnd, dm, ev_div _ (by decide), nI_add, rem60 (by omega), ev_grdN _ (show (f + E) % 60 < 60 by omega) (by decide), nI_clamp (by omega), f4 E (by omega), nI_1, show T.length - (E + 1) + 1 = T.length - E by omega]
    have b12 : cT T E / 32 < 12 := by omega
    have katE : chP B (S E) (upd kat (cT T E / 32) (nI (S E (cT T E / 32)))) := by
      have := chP_upd (b := cT T E / 32) (q := S E (cT T E / 32)) r7
      rw [back] at this; exact this
    rw [if_neg dn, if_neg dn, f1, f3, ev_b _ lb, un3_ap, ev_b _ (s_bargeOf _ k1), ev_b _ (s_dirOf _ k1), ev_b _ (s_stepsOf _ k1), ev_b _ e1, un2_ap, ev_bnd, dm, m2]
    simp only [ev_grdN _ (show E < 60 by omega) (show 60 < 2 ^ 31 by decide), ev_grdN _ (show T.length - (E + 1) < 60 by omega) (show 60 < 2 ^ 31 by decide), ev_bnd, nI_clamp (show E < 2 ^ 31 by omega), nI_clamp (show T.length - (E + 1) < 2 ^ 31 by omega), u1, u2, u3, ev_grdN _ b12 (show 12 < 2 ^ 31 by decide), cl_nI b12, nI_1]
    refine ⟨1, 0, kt₉, _, _, _, _, _, _, _, _, _, S E, rfl, rfl, sE, q1, q2, katE, T, S, E, ⟨a1, by omega, rfl, a4, a5⟩, ⟨f, rfl, f60, rfl, rfl, f4⟩, rfl, by rw [show T.length - (E + 1) + 1 = T.length - E by omega], fun k hk => m3 k (by omega), fun j hj => ?_⟩
    by_cases z : j = T.length - (E + 1)
    · subst z
      rw [pk_us, pk_us, pk_us, show T.length - 1 - (T.length - (E + 1)) = E by omega, show T.length - (T.length - (E + 1)) = E + 1 by omega]
      exact ⟨rfl, rfl, rfl⟩
    · rw [pk_un z, pk_un z, pk_un z]
      exact m4 j (by omega)
theorem eq_redo {B : Bas} {P : Nat → Nat} {cw chh cn : Int32} {cwl ct : Int64} {ck cp cl cg ca cwd chg : Nat → Int32} {cs : Nat → Int64} {khas kw kh kn : Int32} {kwl kk kat ks ky kg : Nat → Int32} {lf ld lu um rm : Int32} {lm ub uf ut rb rf rt : Nat → Int32} (h : basOk B) (hP : stC B P) (hc : chX B P cw chh cn cwl ct ck cp cl cg ca cwd chg cs) (hr : rfX B P khas kw kh kn kwl kk kat ks ky kg) (hl : lgR B P lf ld lu lm um rm ub uf ut rb rf rt) (st st2 th : Int32) :
    ∃ (ans st₉ : Int32) (ct₉ : Int64) (cp₉ : Nat → Int32) (ld₉ lu₉ um₉ rm₉ : Int32) (kat₉ ub₉ uf₉ ut₉ : Nat → Int32) (Q : Nat → Nat), f_BargeBasin_redo st cw ct cp cs lf ld lu lm = some (ans, st₉, ct₉, cp₉, ld₉, lu₉) ∧
      f_BargeBasinModel_redo st2 th khas um rm kat ub uf ut rb rf rt = some (ans, st₉, 0, um₉, rm₉, kat₉, ub₉, uf₉, ut₉) ∧
      stC B Q ∧ chT B Q ct₉ ∧ chP B Q cp₉ ∧ chP B Q kat₉ ∧ lgR B Q lf ld₉ lu₉ lm um₉ rm₉ ub₉ uf₉ ut₉ rb rf rt := by
  obtain ⟨c1, c2, c3, c4, c5, c6, c7, c8, c9⟩ := hc
  obtain ⟨r1, r2, r3, r4, r5, r6, r7, r8⟩ := hr
  subst c1; subst c2; subst c3; subst r1; subst r2; subst r3; subst r4
  have n12 := h.2.2.2.2.1
  obtain ⟨T, S, D, t1, t2, t3⟩ := hl
  have t1₉ := t1
  obtain ⟨a1, a2, a3, a4, a5⟩ := t1
  have t2₉ := t2
  obtain ⟨f, f1, f60, f2, f3, f4⟩ := t2
  have t3₉ := t3
  obtain ⟨m1, m2, m3, m4⟩ := t3
  unfold f_BargeBasin_redo f_BargeBasinModel_redo
  rw [if_neg (show ¬ (1 : Int32) = 0 by decide), ev_b _ (noBas h), if_pos rfl, f3, m2]
  by_cases d0 : T.length - D = 0
  · rw [if_pos (show nI (T.length - D) = 0 by rw [d0]; rfl), if_pos (show nI (T.length - D) = 0 by rw [d0]; rfl)]
    refine ⟨0, 11, ct, cp, ld, nI (T.length - D), um, nI (T.length - D), kat, ub, uf, ut, P, rfl, rfl, hP, c5, c7, r7, T, S, D, t1₉, ?_, ?_⟩
    · rw [f3] at t2₉; exact t2₉
    · rw [m2] at t3₉; exact t3₉
  · have dn : ¬ nI (T.length - D) = 0 := nI_ne0 (by omega) (by omega)
    obtain ⟨k1, k2, k3, k4⟩ := a5 D (by omega)
    obtain ⟨u1, u2, u3⟩ := m4 (T.length - D - 1) (by omega)
    rw [show T.length - 1 - (T.length - D - 1) = D by omega] at u1 u2 u3
    rw [show T.length - (T.length - D - 1) = D + 1 by omega] at u3
    have sE := a4 (D + 1) (by omega)
    rw [a3] at k3 k4 u2
    have p64 := ins_64 h hP.1.1 k2
    have hv : nI (P (cT T D / 32)) + nI (cT T D % 8) * sv_STEP (cT T D / 8 % 4) = nI (S (D + 1) (cT T D / 32)) := by
      rw [(step32 _ p64 (cT T D % 8) (by omega) (cT T D / 8 % 4) (by omega)).1, ← ofInt_nI]
      refine congrArg Int32.ofInt ?_
      rw [k4]
    obtain ⟨kt₉, e1, q1, q2⟩ := s_shift h hP.1 (by rw [← k3]; exact sE.1) c6 c7 c5 k2 (show cT T D / 8 % 4 < 4 by omega) hv
    rw [← k3] at q1 q2
    have dm : nI (T.length - D) - 1 = nI (T.length - D - 1) := pk_sub (a := T.length - D) (b := 1) (by omega)
    have lb : f_Log_forth (nI f) (nI D) (nI (T.length - D)) lm = some (nI (cT T D), nI (D + 1), nI (T.length - (D + 1))) := by
      unfold f_Log_forth
      rw [ev_div _ (by decide), nI_add, rem60 (by omega), ev_grdN _ (show (f + D) % 60 < 60 by omega) (by decide), ev_bnd, ev_bnd, ev_bnd, nI_clamp (by omega), f4 D (by omega), nI_1, dm, show T.length - D - 1 = T.length - (D + 1) by omega]
    have b12 : cT T D / 32 < 12 := by omega
    have katE : chP B (S (D + 1)) (upd kat (cT T D / 32) (nI (S (D + 1) (cT T D / 32)))) := by
      have := chP_upd (b := cT T D / 32) (q := S (D + 1) (cT T D / 32)) r7
      rw [← k3] at this; exact this
    rw [if_neg dn, if_neg dn, f1, f2, ev_b _ lb, un3_ap, ev_b _ (s_bargeOf _ k1), ev_b _ (s_dirOf _ k1), ev_b _ (s_stepsOf _ k1), ev_b _ e1, un2_ap, ev_bnd, dm, m1]
    simp only [ev_grdN _ (show D < 60 by omega) (show 60 < 2 ^ 31 by decide), ev_grdN _ (show T.length - D - 1 < 60 by omega) (show 60 < 2 ^ 31 by decide), ev_bnd, nI_clamp (show D < 2 ^ 31 by omega), nI_clamp (show T.length - D - 1 < 2 ^ 31 by omega), u1, u2, u3, ev_grdN _ b12 (show 12 < 2 ^ 31 by decide), cl_nI b12, nI_1]
    refine ⟨1, 0, kt₉, _, _, _, _, _, _, _, _, _, S (D + 1), rfl, rfl, sE, q1, q2, katE, T, S, D + 1, ⟨a1, by omega, rfl, a4, a5⟩, ⟨f, rfl, f60, rfl, rfl, f4⟩, rfl, by rw [show T.length - D - 1 = T.length - (D + 1) by omega], fun k hk => ?_, fun j hj => m4 j (by omega)⟩
    by_cases z : k = D
    · subst z
      rw [pk_us, pk_us, pk_us, a3]
      exact ⟨rfl, rfl, rfl⟩
    · rw [pk_un z, pk_un z, pk_un z]
      exact m3 k (by omega)
end
section
/-! follow: both sides go the same way. -/
theorem sub_le0 {a k : Nat} (ha : a < 6000) (hk : k < 2 ^ 31) (h : a ≤ k) : nI a - nI k ≤ 0 := by
  rw [Int32.le_iff_toInt_le, Int32.toInt_sub, nI_toInt (by omega), nI_toInt hk]
  have e : ((a : Int) - k).bmod (2 ^ 32) = (a : Int) - k := Int.bmod_eq_of_le_mul_two (by omega) (by omega)
  rw [e]
  show (a : Int) - k ≤ 0
  omega
theorem fol {B : Bas} {cs : List Nat} {k m : Nat} {cw chh cn : Int32} {cwl : Int64} {ck cl cg ca cwd chg : Nat → Int32} {cse : Nat → Int64} {kwl kk ks ky kg : Nat → Int32} {psz khp kpm : Int32} {pm pb pw ps rb rf rt : Nat → Int32} (h : basOk B) (hpl : plR cs psz pm khp kpm pb pw ps) (hk : k < cs.length) (hm : m < 2 ^ 31) (w1 w2 w3 : Int32) :
    ∀ (r n f1 f2 : Nat) (P : Nat → Nat) (ct : Int64) (cp kat : Nat → Int32) (lf ld lu um rm : Int32) (lm ub uf ut kwho khe : Nat → Int32), n + r = min m (cs.length - k) → r < f1 → r + 1 < f2 → stC B P → chX B P cw chh cn cwl ct ck cp cl cg ca cwd chg cse → rfX B P 1 (nI (bw B)) (nI (bh B)) (nI (bn B)) kwl kk kat ks ky kg → lgR B P lf ld lu lm um rm ub uf ut rb rf rt →
      ∃ (n₉ : Nat) (ct₉ : Int64) (cp₉ kat₉ : Nat → Int32) (lf₉ ld₉ lu₉ um₉ rm₉ : Int32) (lm₉ ub₉ uf₉ ut₉ kwho₉ khe₉ : Nat → Int32) (Q : Nat → Nat),
        (f_BargeBasin_follow_plan11_L46 (nI m) cw chh cn cwl ck ca cwd chg cse psz pm f1 (nI n) (nI (k + n)) ct cp lf ld lu lm = some (.inr (nI n₉, ct₉, cp₉, lf₉, ld₉, lu₉, lm₉)) ∨ f_BargeBasin_follow_plan11_L46 (nI m) cw chh cn cwl ck ca cwd chg cse psz pm f1 (nI n) (nI (k + n)) ct cp lf ld lu lm = some (.inl (nI n₉, ct₉, cp₉, lf₉, ld₉, lu₉, lm₉))) ∧
        f_BargeBasinModel_follow_L56 (nI k) (nI m) (nI (bw B)) (nI (bh B)) (nI (bn B)) kpm kwl kk ks ky pb pw ps f2 (nI n) 1 um rm w1 w2 w3 kat ub uf ut kwho khe = some (nI n₉, um₉, rm₉, w1, w2, w3, kat₉, ub₉, uf₉, ut₉, kwho₉, khe₉) ∧
        stC B Q ∧ chT B Q ct₉ ∧ chP B Q cp₉ ∧ chP B Q kat₉ ∧ lgR B Q lf₉ ld₉ lu₉ lm₉ um₉ rm₉ ub₉ uf₉ ut₉ rb rf rt := by
  have n12 := h.2.2.2.2.1
  obtain ⟨l6, c4, e1, wr, e2, e3, pw₉⟩ := hpl
  subst e1; subst e2; subst e3
  have sub : nI cs.length - nI k = nI (cs.length - k) := pk_sub (by omega)
  intro r
  induction r with
  | zero =>
    intro n f1 f2 P ct cp kat lf ld lu um rm lm ub uf ut kwho khe h1 h2 h3 hP hc hr hl
    obtain ⟨f1, rfl⟩ : ∃ z, f1 = z + 1 := ⟨f1 - 1, by omega⟩
    obtain ⟨f2, rfl⟩ : ∃ z, f2 = z + 1 := ⟨f2 - 1, by omega⟩
    refine ⟨n, ct, cp, kat, lf, ld, lu, um, rm, lm, ub, uf, ut, kwho, khe, P, Or.inl ?_, ?_, hP, hc.2.2.2.2.1, hc.2.2.2.2.2.2.1, hr.2.2.2.2.2.2.1, hl⟩
    · rw [f_BargeBasin_follow_plan11_L46]
      by_cases z : cs.length ≤ k + n
      · rw [if_pos (nI_le z (by omega))]
      · rw [if_neg (nI_ge (by omega) (by omega)), if_pos (nI_le (by omega) (by omega))]
    · rw [f_BargeBasinModel_follow_L56, if_neg (show ¬ (1 : Int32) = 0 by decide), sub]
      by_cases z : m ≤ n
      · rw [if_pos (nI_le z (by omega))]
      · rw [if_neg (nI_ge (by omega) (by omega)), if_pos (nI_le (by omega) (by omega))]
  | succ r ih =>
    intro n f1 f2 P ct cp kat lf ld lu um rm lm ub uf ut kwho khe h1 h2 h3 hP hc hr hl
    obtain ⟨f1, rfl⟩ : ∃ z, f1 = z + 1 := ⟨f1 - 1, by omega⟩
    obtain ⟨f2, rfl⟩ : ∃ z, f2 = z + 1 := ⟨f2 - 1, by omega⟩
    have hkn : k + n < cs.length := by omega
    have c := c4 _ (List.getElem_mem hkn)
    obtain ⟨p1, p2, p3⟩ := pw₉ (k + n) hkn
    have wv := wr (k + n) hkn
    generalize cs[k + n] = cc at *
    have ev1 : ∀ X, (jb (some (nI (cc / 32))) (fun r_15 => if cn ≤ r_15 then some (.inr (nI n, ct, cp, lf, ld, lu, lm)) else jb (f_BargeBasin_slides (nI (cc / 32)) (nI (cc / 8 % 4)) (nI (cc % 8)) cw chh cwl ct ck cp ca cwd chg cse lf ld lu lm) (un7 (fun r_28 Ctaken_29 Cplace_30 k_log_first_31 k_log_done_32 k_log_undone_33 k_log_moves_34 => if r_28 = 0 then some (.inl (nI n, Ctaken_29, Cplace_30, k_log_first_31, k_log_done_32, k_log_undone_33, k_log_moves_34)) else f_BargeBasin_follow_plan11_L46 (nI m) cw chh cn cwl ck ca cwd chg cse (nI cs.length) pm f1 (nI (n + 1)) (nI (k + n + 1)) Ctaken_29 Cplace_30 k_log_first_31 k_log_done_32 k_log_undone_33 k_log_moves_34)))) = X → f_BargeBasin_follow_plan11_L46 (nI m) cw chh cn cwl ck ca cwd chg cse (nI cs.length) pm (f1 + 1) (nI n) (nI (k + n)) ct cp lf ld lu lm = X := by
      intro X hX
      rw [f_BargeBasin_follow_plan11_L46, if_neg (nI_ge hkn (by omega)), if_neg (nI_ge (show n < m by omega) (by omega)), ev_grdN _ (show k + n < 6000 by omega) (by decide), ev_bnd, nI_clamp (show k + n < 2 ^ 31 by omega), wv, s_bargeOf _ c, s_dirOf _ c, s_stepsOf _ c, ← hX]
      simp only [ev_b _ rfl, ev_bnd, nI_1]
    have ev2 : ∀ X, (jb (f_BargeBasinModel_isBarge (nI (cc / 32)) (nI (bn B))) (fun r_14 => if r_14 = 0 then f_BargeBasinModel_follow_L56 (nI k) (nI m) (nI (bw B)) (nI (bh B)) (nI (bn B)) (nI cs.length) kwl kk ks ky pb pw ps f2 (nI n) 0 um rm w1 w2 w3 kat ub uf ut kwho khe else jb (f_BargeBasinModel_slidesQuietly (nI (cc / 32)) (nI (cc / 8 % 4)) (nI (cc % 8)) (nI (bw B)) (nI (bh B)) (nI (bn B)) um rm w1 w2 w3 kwl kk kat ks ky ub uf ut kwho khe) (un12 (fun r_24 a b w1₉ w2₉ w3₉ kat₉ ub₉ uf₉ ut₉ kw₉ kh₉ => if r_24 = 0 then f_BargeBasinModel_follow_L56 (nI k) (nI m) (nI (bw B)) (nI (bh B)) (nI (bn B)) (nI cs.length) kwl kk ks ky pb pw ps f2 (nI n) 0 a b w1₉ w2₉ w3₉ kat₉ ub₉ uf₉ ut₉ kw₉ kh₉ else f_BargeBasinModel_follow_L56 (nI k) (nI m) (nI (bw B)) (nI (bh B)) (nI (bn B)) (nI cs.length) kwl kk ks ky pb pw ps f2 (nI (n + 1)) 1 a b w1₉ w2₉ w3₉ kat₉ ub₉ uf₉ ut₉ kw₉ kh₉)))) = X →
        f_BargeBasinModel_follow_L56 (nI k) (nI m) (nI (bw B)) (nI (bh B)) (nI (bn B)) (nI cs.length) kwl kk ks ky pb pw ps (f2 + 1) (nI n) 1 um rm w1 w2 w3 kat ub uf ut kwho khe = X := by
      intro X hX
      rw [f_BargeBasinModel_follow_L56, if_neg (show ¬ (1 : Int32) = 0 by decide), sub, if_neg (nI_ge (show n < m by omega) (by omega)), if_neg (nI_ge (show n < cs.length - k by omega) (by omega)), ev_bnd, nI_add, ev_grdN _ (show k + n < 6000 by omega) (by decide), ev_grdN _ (show k + n < 6000 by omega) (by decide), ev_grdN _ (show k + n < 6000 by omega) (by decide), ev_grdN _ (show k + n < 6000 by omega) (by decide), nI_clamp (show k + n < 2 ^ 31 by omega), p1, p2, p3, ← hX]
      simp only [if_true, if_neg (show ¬ (1 : Int32) = 0 by decide), ev_bnd, nI_1, show nI n + 0 = nI n from Int32.add_zero _]
    have halt : ∀ (a b : Int32) (kat₉ ub₉ uf₉ ut₉ kw₉ kh₉ : Nat → Int32), f_BargeBasinModel_follow_L56 (nI k) (nI m) (nI (bw B)) (nI (bh B)) (nI (bn B)) (nI cs.length) kwl kk ks ky pb pw ps f2 (nI n) 0 a b w1 w2 w3 kat₉ ub₉ uf₉ ut₉ kw₉ kh₉ = some (nI n, a, b, w1, w2, w3, kat₉, ub₉, uf₉, ut₉, kw₉, kh₉) := by
      intro a b kat₉ ub₉ uf₉ ut₉ kw₉ kh₉
      obtain ⟨f3, rfl⟩ : ∃ z, f2 = z + 1 := ⟨f2 - 1, by omega⟩
      rw [f_BargeBasinModel_follow_L56, if_pos rfl]
    by_cases hb : cc / 32 < bn B
    · obtain ⟨T, S, D, t1, t2, t3⟩ := hl
      obtain ⟨A1, A2⟩ := s_slides (b := cc / 32) (d := cc / 8 % 4) (s := cc % 8) h hP hc t1.1 t1.2.1 t2 hb (by omega) (by omega)
      obtain ⟨B1, B2⟩ := m_slides (b := cc / 32) (d := cc / 8 % 4) (s := cc % 8) h hP hr.2.2.2.2.2.1 hr.2.2.2.2.1 hr.2.2.2.2.2.2.1 t1 t3 hb (by omega) (by omega) w1 w2 w3 kwho khe
      have nb : ¬ cn ≤ nI (cc / 32) := by rw [hc.2.2.1]; exact nI_ge hb (by omega)
      by_cases hkk : cc % 8 ≤ room B P (cc / 32) (cc / 8 % 4) false
      · obtain ⟨kt₉, kp₉, lf₉, ld₉, lu₉, lm₉, e1, q1, q2, q3⟩ := A1 hkk
        obtain ⟨um₉, rm₉, kat₉, ub₉, uf₉, ut₉, kw₉, kh₉, e2, p1₉, p2₉⟩ := B1 hkk
        have sQ := mv_st h hP hb (show cc / 8 % 4 < 4 by omega) hkk
        have e2₉ : f_BargeBasinModel_slidesQuietly (nI (cc / 32)) (nI (cc / 8 % 4)) (nI (cc % 8)) (nI (bw B)) (nI (bh B)) (nI (bn B)) um rm w1 w2 w3 kwl kk kat ks ky ub uf ut kwho khe = some (1, um₉, rm₉, w1, w2, w3, kat₉, ub₉, uf₉, ut₉, kw₉, kh₉) := by
          unfold f_BargeBasinModel_slidesQuietly
          rw [ev_b _ e2, un12_ap, ev_bool _ (Or.inr rfl)]
        obtain ⟨n₉, ct₉₉, cp₉₉, kat₉₉, lf₉₉, ld₉₉, lu₉₉, um₉₉, rm₉₉, lm₉₉, ub₉₉, uf₉₉, ut₉₉, kw₉₉, kh₉₉, Q, x1, x2, x3⟩ := ih (n + 1) f1 f2 _ kt₉ kp₉ kat₉ lf₉ ld₉ lu₉ um₉ rm₉ lm₉ ub₉ uf₉ ut₉ kw₉ kh₉ (by omega) (by omega) (by omega) sQ ⟨hc.1, hc.2.1, hc.2.2.1, hc.2.2.2.1, q1, hc.2.2.2.2.2.1, q2, hc.2.2.2.2.2.2.2.1, hc.2.2.2.2.2.2.2.2⟩ ⟨rfl, rfl, rfl, rfl, hr.2.2.2.2.1, hr.2.2.2.2.2.1, p1₉, hr.2.2.2.2.2.2.2⟩ ⟨_, _, _, sl_new h hP t1 hb (show cc / 8 % 4 < 4 by omega) hkk, q3, p2₉⟩
        refine ⟨n₉, ct₉₉, cp₉₉, kat₉₉, lf₉₉, ld₉₉, lu₉₉, um₉₉, rm₉₉, lm₉₉, ub₉₉, uf₉₉, ut₉₉, kw₉₉, kh₉₉, Q, ?_, ?_, x3⟩
        · rcases x1 with y | y
          · left
            apply ev1
            rw [ev_b _ rfl, if_neg nb, ev_b _ e1, un7_ap, if_neg (show ¬ (1 : Int32) = 0 by decide)]
            exact y
          · right
            apply ev1
            rw [ev_b _ rfl, if_neg nb, ev_b _ e1, un7_ap, if_neg (show ¬ (1 : Int32) = 0 by decide)]
            exact y
        · apply ev2
          rw [ev_b _ (ib_c h hb), if_neg (show ¬ (1 : Int32) = 0 by decide), ev_b _ e2₉, un12_ap, if_neg (show ¬ (1 : Int32) = 0 by decide), x2]
      · have e1 := A2 hkk
        obtain ⟨o, kw₉, kh₉, e2, -⟩ := B2 hkk
        have e2₉ : f_BargeBasinModel_slidesQuietly (nI (cc / 32)) (nI (cc / 8 % 4)) (nI (cc % 8)) (nI (bw B)) (nI (bh B)) (nI (bn B)) um rm w1 w2 w3 kwl kk kat ks ky ub uf ut kwho khe = some (0, um, rm, w1, w2, w3, kat, ub, uf, ut, kw₉, kh₉) := by
          unfold f_BargeBasinModel_slidesQuietly
          rw [ev_b _ e2, un12_ap, ev_bool _ (Or.inl rfl)]
        refine ⟨n, ct, cp, kat, lf, ld, lu, um, rm, lm, ub, uf, ut, kw₉, kh₉, P, Or.inr ?_, ?_, hP, hc.2.2.2.2.1, hc.2.2.2.2.2.2.1, hr.2.2.2.2.2.2.1, T, S, D, t1, t2, t3⟩
        · apply ev1
          rw [ev_b _ rfl, if_neg nb, ev_b _ e1, un7_ap, if_pos rfl]
        · apply ev2
          rw [ev_b _ (ib_c h hb), if_neg (show ¬ (1 : Int32) = 0 by decide), ev_b _ e2₉, un12_ap, if_pos rfl, halt]
    · refine ⟨n, ct, cp, kat, lf, ld, lu, um, rm, lm, ub, uf, ut, kwho, khe, P, Or.inl ?_, ?_, hP, hc.2.2.2.2.1, hc.2.2.2.2.2.2.1, hr.2.2.2.2.2.2.1, hl⟩
      · apply ev1
        rw [ev_b _ rfl, if_pos (show cn ≤ nI (cc / 32) by rw [hc.2.2.1]; exact nI_le (by omega) (by omega))]
      · apply ev2
        rw [ev_b _ (ib_cn (Or.inr (nI_le (show bn B ≤ cc / 32 by omega) (by omega)))), if_pos rfl, halt]
theorem eq_follow {B : Bas} {P : Nat → Nat} {cs : List Nat} {cw chh cn : Int32} {cwl ct : Int64} {ck cp cl cg ca cwd chg : Nat → Int32} {cse : Nat → Int64} {khas kw kh kn : Int32} {kwl kk kat ks ky kg : Nat → Int32} {lf ld lu um rm : Int32} {lm ub uf ut rb rf rt : Nat → Int32} {psz khp kpm : Int32} {pm pb pw ps : Nat → Int32} (h : basOk B) (hP : stC B P) (hc : chX B P cw chh cn cwl ct ck cp cl cg ca cwd chg cse) (hr : rfX B P khas kw kh kn kwl kk kat ks ky kg) (hl : lgR B P lf ld lu lm um rm ub uf ut rb rf rt) (hpl : plR cs psz pm khp kpm pb pw ps) (v1 v2 st st2 th w1 w2 w3 : Int32) (kwho khe : Nat → Int32) :
    ∃ (ans st₉ : Int32) (ct₉ : Int64) (cp₉ : Nat → Int32) (lf₉ ld₉ lu₉ : Int32) (lm₉ : Nat → Int32) (um₉ rm₉ : Int32) (kat₉ ub₉ uf₉ ut₉ kwho₉ khe₉ : Nat → Int32) (Q : Nat → Nat), f_BargeBasin_follow_plan11 v1 v2 st cw chh cn cwl ct ck cp ca cwd chg cse lf ld lu lm psz pm = some (ans, st₉, ct₉, cp₉, lf₉, ld₉, lu₉, lm₉) ∧
      f_BargeBasinModel_follow v1 v2 st2 th khas kw kh kn um rm w1 w2 w3 khp kpm kwl kk kat ks ky ub uf ut pb pw ps kwho khe = some (ans, st₉, 0, um₉, rm₉, w1, w2, w3, kat₉, ub₉, uf₉, ut₉, kwho₉, khe₉) ∧
      stC B Q ∧ chT B Q ct₉ ∧ chP B Q cp₉ ∧ chP B Q kat₉ ∧ lgR B Q lf₉ ld₉ lu₉ lm₉ um₉ rm₉ ub₉ uf₉ ut₉ rb rf rt := by
  have hr₉ := hr
  obtain ⟨r1, r2, r3, r4, r5, r6, r7, r8⟩ := hr
  subst r1; subst r2; subst r3; subst r4
  have hpl₉ := hpl
  obtain ⟨l6, c4, e1, wr, e2, e3, pw₉⟩ := hpl
  subst e1; subst e2; subst e3
  unfold f_BargeBasin_follow_plan11 f_BargeBasinModel_follow
  rw [if_neg (show ¬ (1 : Int32) = 0 by decide), show f_BargeBasin_hasNoBasin cw = some 0 by rw [hc.1]; exact noBas h, ev_b _ rfl, if_pos rfl]
  by_cases a : v1 < 0
  · rw [if_pos a, if_pos a]
    exact ⟨-1, 2, ct, cp, lf, ld, lu, lm, um, rm, kat, ub, uf, ut, kwho, khe, P, rfl, rfl, hP, hc.2.2.2.2.1, hc.2.2.2.2.2.2.1, r7, hl⟩
  · rw [if_neg a, if_neg a]
    by_cases b : 0 ≤ v2
    · rw [if_pos b, if_pos b]
      obtain ⟨k, hk, ek⟩ := nI_of a
      obtain ⟨m, hm, em⟩ := nI_of (x := v2) (fun z => by
        rw [Int32.lt_iff_toInt_lt] at z
        rw [Int32.le_iff_toInt_le] at b
        omega)
      subst ek; subst em
      by_cases kl : k < cs.length
      · obtain ⟨n₉, ct₉, cp₉, kat₉, lf₉, ld₉, lu₉, um₉, rm₉, lm₉, ub₉, uf₉, ut₉, kw₉, kh₉, Q, x1, x2, x3⟩ := fol (m := m) h hpl₉ kl hm w1 w2 w3 (min m (cs.length - k)) 0 jN jN P ct cp kat lf ld lu um rm lm ub uf ut kwho khe (by omega) (by show _ < 2000000; omega) (by show _ < 2000000; omega) hP hc hr₉ hl
        rw [nI_0, Nat.add_zero] at x1
        rw [nI_0] at x2
        rw [ev_b _ x2, un12_ap]
        rcases x1 with y | y
        · rw [ev_b _ y, jsel_r, un7_ap]
          exact ⟨nI n₉, 0, ct₉, cp₉, lf₉, ld₉, lu₉, lm₉, um₉, rm₉, kat₉, ub₉, uf₉, ut₉, kw₉, kh₉, Q, rfl, rfl, x3⟩
        · rw [ev_b _ y, jsel_l, un7_ap]
          exact ⟨nI n₉, 0, ct₉, cp₉, lf₉, ld₉, lu₉, lm₉, um₉, rm₉, kat₉, ub₉, uf₉, ut₉, kw₉, kh₉, Q, rfl, rfl, x3⟩
      · have y1 : f_BargeBasin_follow_plan11_L46 (nI m) cw chh cn cwl ck ca cwd chg cse (nI cs.length) pm jN 0 (nI k) ct cp lf ld lu lm = some (.inr (0, ct, cp, lf, ld, lu, lm)) := by
          rw [show jN = 1999999 + 1 from rfl, f_BargeBasin_follow_plan11_L46, if_pos (nI_le (by omega) hk)]
        have y2 : f_BargeBasinModel_follow_L56 (nI k) (nI m) (nI (bw B)) (nI (bh B)) (nI (bn B)) (nI cs.length) kwl kk ks ky pb pw ps jN 0 1 um rm w1 w2 w3 kat ub uf ut kwho khe = some (0, um, rm, w1, w2, w3, kat, ub, uf, ut, kwho, khe) := by
          rw [show jN = 1999999 + 1 from rfl, f_BargeBasinModel_follow_L56, if_neg (show ¬ (1 : Int32) = 0 by decide), if_pos (sub_le0 l6 hk (by omega))]
          split <;> rfl
        rw [ev_b _ y1, jsel_r, un7_ap, ev_b _ y2, un12_ap]
        exact ⟨0, 0, ct, cp, lf, ld, lu, lm, um, rm, kat, ub, uf, ut, kwho, khe, P, rfl, rfl, hP, hc.2.2.2.2.1, hc.2.2.2.2.2.2.1, r7, hl⟩
    · rw [if_neg b, if_neg b]
      exact ⟨-1, 2, ct, cp, lf, ld, lu, lm, um, rm, kat, ub, uf, ut, kwho, khe, P, rfl, rfl, hP, hc.2.2.2.2.1, hc.2.2.2.2.2.2.1, r7, hl⟩
end
section
/-! lies; a barge taken away (drop, remove); lift. -/
theorem and7 {p : Nat} (h : p < 64) : nI p &&& 7 = nI (p % 8) := pk_andN (n := p) (by omega) 3 (by decide)
theorem geo_r9 {q : Nat} (hq : q < 2 ^ 31) : nI q - nI (q / 8) * 8 = nI (q % 8) := by
  rw [← geo_d8 hq, geo_r8 hq]
theorem shr3 : ∀ p, p < 64 → jishr (nI p) 3 = nI (p / 8) := by decide +kernel
theorem eq_lies {B : Bas} {P : Nat → Nat} {cw chh cn : Int32} {cwl ct : Int64} {ck cp cl cg ca cwd chg : Nat → Int32} {cs : Nat → Int64} {khas kw kh kn : Int32} {kwl kk kat ks ky kg : Nat → Int32} (h : basOk B) (hP : stC B P) (hc : chX B P cw chh cn cwl ct ck cp cl cg ca cwd chg cs) (hr : rfX B P khas kw kh kn kwl kk kat ks ky kg) (v1 v2 st st2 th : Int32) :
    ∃ ans st₉, f_BargeBasin_lies v1 v2 st cw cn ck cp cl cg ca = some (ans, st₉) ∧ f_BargeBasinModel_lies v1 v2 st2 th khas kn kk kat ks ky kg = some (ans, st₉, 0) := by
  obtain ⟨c1, c2, c3, c4, c5, c6, c7, c8, c9⟩ := hc
  obtain ⟨r1, r2, r3, r4, r5, r6, r7, r8⟩ := hr
  subst c1; subst c2; subst c3; subst r1; subst r2; subst r3; subst r4
  have n12 := h.2.2.2.2.1
  unfold f_BargeBasin_lies f_BargeBasinModel_lies f_BargeBasin_lies_J56
  rw [if_neg (show ¬ (1 : Int32) = 0 by decide)]
  rcases ix3 v1 (show bn B < 2 ^ 31 by omega) with z | ⟨b, hb, z⟩
  · rw [ev_b _ (fb_cn h z), ev_b _ (ib_cn z), if_neg (show ¬ (2 : Int32) = 0 by decide), if_pos rfl]
    exact ⟨-1, 2, rfl, rfl⟩
  · subst z
    obtain ⟨a1, a2, a3, -⟩ := basOk_wh h hb
    obtain ⟨k1, k2, k3, k4, k5⟩ := c6 b hb
    obtain ⟨m1, m2, m3⟩ := r6 b hb
    have p64 := ins_64 h hP.1.1 hb
    rw [ev_b _ (fb_c h hb), ev_b _ (ib_c h hb), if_pos rfl, if_neg (show ¬ (1 : Int32) = 0 by decide)]
    by_cases x : v2 < 0
    · rw [if_pos x, if_pos x]; exact ⟨-1, 2, rfl, rfl⟩
    · rw [if_neg x, if_neg x]
      by_cases y : v2 ≤ 6
      · rw [if_pos y, if_pos y]
        obtain ⟨q, q6, eq⟩ := nI_of2 (M := 6) (n := 6) (by decide) x y
        subst eq
        unfold f_Chart_detail
        simp only [ev_grdN _ a1 (show 12 < 2 ^ 31 by decide), cl_nI a1, k1, k2, m1, m2, m3, c7 b hb, c8 b hb, r7 b hb, and7 p64, shr3 _ p64, ev_div _ (show ¬ (8 : Int32) = 0 by decide), geo_d8 (show P b < 2 ^ 31 by omega), geo_r9 (show P b < 2 ^ 31 by omega)]
        have ce : (nI (bK B b) = 5) = (bK B b = 5) := nI_eqL (j := 5) (by omega) (by decide)
        simp only [ce]
        have qq : q = 0 ∨ q = 1 ∨ q = 2 ∨ q = 3 ∨ q = 4 ∨ q = 5 ∨ q = 6 := by omega
        have way : (if bI (decide (bY B b = 1)) = 0 then some (0 : Int32) else some 1) = some (nI (bY B b)) := by
          have : bY B b = 0 ∨ bY B b = 1 := by omega
          rcases this with e | e <;> rw [e] <;> rfl
        by_cases k5₉ : bK B b = 5
        · have g64 := h.2.2.2.2.2.2 b hb k5₉
          rw [c9 b hb k5₉, r8 b hb k5₉, and7 g64, shr3 _ g64, geo_r8 (show bG B b < 2 ^ 31 by omega), geo_d8 (show bG B b < 2 ^ 31 by omega)]
          simp only [if_pos k5₉, way]
          rcases qq with e | e | e | e | e | e | e <;> subst e <;> exact ⟨_, 0, rfl, rfl⟩
        · simp only [if_neg k5₉, way]
          rcases qq with e | e | e | e | e | e | e <;> subst e
          · exact ⟨_, 0, rfl, rfl⟩
          · exact ⟨_, 0, rfl, rfl⟩
          · exact ⟨_, 0, rfl, rfl⟩
          · exact ⟨_, 0, rfl, rfl⟩
          · exact ⟨_, 0, rfl, rfl⟩
          · exact ⟨-1, 5, rfl, rfl⟩
          · exact ⟨-1, 5, rfl, rfl⟩
      · rw [if_neg y, if_neg y]; exact ⟨-1, 2, rfl, rfl⟩
/-- the moves are forgotten -/
theorem lgR_forget {B B₉ : Bas} {P Q : Nat → Nat} {lf ld lu um rm : Int32} {lm ub uf ut rb rf rt : Nat → Int32} (h : lgR B P lf ld lu lm um rm ub uf ut rb rf rt) (hQ : stC B₉ Q) : lgR B₉ Q lf 0 0 lm 0 0 ub uf ut rb rf rt := by
  obtain ⟨T, S, D, t1, ⟨f, f1, f60, -⟩, -⟩ := h
  refine ⟨[], fun _ => Q, 0, ⟨by simp, Nat.le_refl _, rfl, fun k _ => hQ, fun k hk => by cases hk⟩, ⟨f, f1, f60, rfl, rfl, fun k hk => by cases hk⟩, rfl, rfl, fun k hk => by omega, fun j hj => by simp at hj⟩
/-! One barge less. -/
def sk (b i : Nat) : Nat := if i < b then i else i + 1
def dropB (B : Bas) (b : Nat) : Bas := (bw B, bh B, bn B - 1, fun i => bK B (sk b i), fun i => bS B (sk b i), fun i => bY B (sk b i), fun i => bG B (sk b i), bwl B)
def dropP (P : Nat → Nat) (b : Nat) : Nat → Nat := fun i => P (sk b i)
theorem sk_lt {n b i : Nat} (hb : b < n) (hi : i < n - 1) : sk b i < n := by unfold sk; split <;> omega
theorem sk_ne {b i : Nat} : sk b i ≠ b := by unfold sk; split <;> omega
theorem sk_inj {b i j : Nat} (h : sk b i = sk b j) : i = j := by
  unfold sk at h
  split at h <;> split at h <;> omega
theorem sk_onto {n b c : Nat} (hc : c < n) (hne : c ≠ b) (hb : b < n) : ∃ i, i < n - 1 ∧ sk b i = c := by
  by_cases h : c < b
  · exact ⟨c, by omega, by unfold sk; rw [if_pos h]⟩
  · exact ⟨c - 1, by omega, by unfold sk; rw [if_neg (by omega)]; omega⟩
theorem drop_xW {B : Bas} {b i : Nat} : xW (dropB B b) i = xW B (sk b i) ∧ xH (dropB B b) i = xH B (sk b i) := ⟨rfl, rfl⟩
theorem drop_fb {B : Bas} {P : Nat → Nat} {b i f : Nat} : fbA (dropB B b) (dropP P b) i f = fbA B P (sk b i) f := rfl
theorem drop_bas {B : Bas} {b : Nat} (h : basOk B) (hb : b < bn B) : basOk (dropB B b) := by
  obtain ⟨h1, h2, h3, h4, h5, h6, h7⟩ := h
  exact ⟨h1, h2, h3, h4, by show bn B - 1 ≤ 12; omega, fun i hi => h6 _ (sk_lt hb hi), fun i hi e => h7 _ (sk_lt hb hi) e⟩
theorem drop_st {B : Bas} {P : Nat → Nat} {b : Nat} (hs : stC B P) (hb : b < bn B) : stC (dropB B b) (dropP P b) := by
  obtain ⟨⟨s1, s2, s3⟩, s4⟩ := hs
  refine ⟨⟨fun i hi => s1 _ (sk_lt hb hi), fun i j f hi hj hf e1 e2 => ?_, fun i f hi hf e => s3 _ f (sk_lt hb hi) hf e⟩, fun i hi => ?_, fun i hi e => s4.2 _ (sk_lt hb hi) e⟩
  · exact sk_inj (s2 _ _ f (sk_lt hb hi) (sk_lt hb hj) hf e1 e2)
  · have hi₉ : bn B - 1 ≤ i := hi
    show P (sk b i) = 0
    unfold sk
    rw [if_neg (by omega)]
    exact s4.1 _ (by omega)
theorem s_dropL {n b : Nat} {k0 p0 l0 g0 a0 wd0 hg0 : Nat → Int32} {s0 : Nat → Int64} (hn : n ≤ 12) (hb : b < n) (ha : ∀ i, i < n → vp_nar .boolean (a0 i) = a0 i) :
    ∀ (r j m : Nat) (k p l g a wd hg : Nat → Int32) (s : Nat → Int64), j + r = n → b < j → r < m →
      (∀ i, k i = k0 (if i + 1 < j then sk b i else i) ∧ p i = p0 (if i + 1 < j then sk b i else i) ∧ l i = l0 (if i + 1 < j then sk b i else i) ∧ g i = g0 (if i + 1 < j then sk b i else i) ∧ a i = a0 (if i + 1 < j then sk b i else i) ∧ wd i = wd0 (if i + 1 < j then sk b i else i) ∧ hg i = hg0 (if i + 1 < j then sk b i else i) ∧ s i = s0 (if i + 1 < j then sk b i else i)) →
      ∃ k₉ p₉ l₉ g₉ a₉ wd₉ hg₉ s₉, f_Chart_drop_L22 (nI n) m (nI j) k p l g a wd hg s = some (k₉, p₉, l₉, g₉, a₉, wd₉, hg₉, s₉) ∧ ∀ i, i < n - 1 → k₉ i = k0 (sk b i) ∧ p₉ i = p0 (sk b i) ∧ l₉ i = l0 (sk b i) ∧ g₉ i = g0 (sk b i) ∧ a₉ i = a0 (sk b i) ∧ wd₉ i = wd0 (sk b i) ∧ hg₉ i = hg0 (sk b i) ∧ s₉ i = s0 (sk b i) := by
  intro r
  induction r with
  | zero =>
    intro j m k p l g a wd hg s h1 h2 h3 h4
    obtain ⟨m, rfl⟩ : ∃ z, m = z + 1 := ⟨m - 1, by omega⟩
    refine ⟨k, p, l, g, a, wd, hg, s, by rw [f_Chart_drop_L22, if_pos (nI_le (by omega) (by omega))], fun i hi => ?_⟩
    have := h4 i
    rw [if_pos (show i + 1 < j by omega)] at this
    exact this
  | succ r ih =>
    intro j m k p l g a wd hg s h1 h2 h3 h4
    obtain ⟨m, rfl⟩ : ∃ z, m = z + 1 := ⟨m - 1, by omega⟩
    have jm : nI j - 1 = nI (j - 1) := pk_sub (a := j) (b := 1) (by omega)
    have hj := h4 j
    rw [if_neg (show ¬ j + 1 < j by omega)] at hj
    obtain ⟨q1, q2, q3, q4, q5, q6, q7, q8⟩ := hj
    have cb : f_Chart_copyBarge_e1 (nI j) (nI (j - 1)) k p l g a wd hg s = some (upd k (j - 1) (k0 j), upd p (j - 1) (p0 j), upd l (j - 1) (l0 j), upd g (j - 1) (g0 j), upd a (j - 1) (a0 j), upd wd (j - 1) (wd0 j), upd hg (j - 1) (hg0 j), vp_updL s (j - 1) (s0 j)) := by
      unfold f_Chart_copyBarge_e1
      simp only [ev_grdN _ (show j < 12 by omega) (show 12 < 2 ^ 31 by decide), ev_grdN _ (show j - 1 < 12 by omega) (show 12 < 2 ^ 31 by decide), ev_bnd, cl_nI (show j < 12 by omega), cl_nI (show j - 1 < 12 by omega), q1, q2, q3, q4, q5, q6, q7, q8, ha j (by omega)]
    rw [f_Chart_drop_L22, if_neg (nI_ge (by omega) (by omega)), jm, ev_b _ cb, un8_ap, ev_bnd, nI_1]
    refine ih (j + 1) m _ _ _ _ _ _ _ _ (by omega) (by omega) (by omega) (fun i => ?_)
    by_cases z : i = j - 1
    · subst z
      have e : (if j - 1 + 1 < j + 1 then sk b (j - 1) else j - 1) = j := by
        rw [if_pos (by omega)]; unfold sk; rw [if_neg (by omega)]; omega
      rw [e]
      exact ⟨pk_us, pk_us, pk_us, pk_us, pk_us, pk_us, pk_us, pk_uLs⟩
    · have e : (if i + 1 < j + 1 then sk b i else i) = (if i + 1 < j then sk b i else i) := by
        by_cases y : i + 1 < j
        · rw [if_pos y, if_pos (by omega)]
        · rw [if_neg y, if_neg (by omega)]
      rw [e, pk_un z, pk_un z, pk_un z, pk_un z, pk_un z, pk_un z, pk_un z, pk_uLn z]
      exact h4 i
theorem s_drop {B : Bas} {P : Nat → Nat} {b : Nat} {cw chh cn : Int32} {cwl ct : Int64} {ck cp cl cg ca cwd chg : Nat → Int32} {cs : Nat → Int64} (h : basOk B) (hP : stC B P) (hc : chX B P cw chh cn cwl ct ck cp cl cg ca cwd chg cs) (hb : b < bn B) :
    ∃ cn₉ ct₉ ck₉ cp₉ cl₉ cg₉ ca₉ cwd₉ chg₉ cs₉, f_Chart_drop (nI b) cn ct ck cp cl cg ca cwd chg cs = some (cn₉, ct₉, ck₉, cp₉, cl₉, cg₉, ca₉, cwd₉, chg₉, cs₉) ∧ chX (dropB B b) (dropP P b) cw chh cn₉ cwl ct₉ ck₉ cp₉ cl₉ cg₉ ca₉ cwd₉ chg₉ cs₉ := by
  obtain ⟨c1, c2, c3, c4, c5, c6, c7, c8, c9⟩ := hc
  subst c1; subst c2; subst c3
  have n12 := h.2.2.2.2.1
  obtain ⟨x, e1, t1⟩ := s_fields h hP.1.1 c6 c7 hb
  obtain ⟨k₉, p₉, l₉, g₉, a₉, wd₉, hg₉, s₉, e2, q⟩ := s_dropL (n := bn B) (k0 := ck) (p0 := cp) (l0 := cl) (g0 := cg) (a0 := ca) (wd0 := cwd) (hg0 := chg) (s0 := cs) n12 hb (fun i hi => by rw [(c6 i hi).2.1]; exact nar_bI _) (bn B - (b + 1)) (b + 1) jN ck cp cl cg ca cwd chg cs (by omega) (by omega) (by show _ < 2000000; omega) (fun i => by
    have : (if i + 1 < b + 1 then sk b i else i) = i := by
      by_cases z : i + 1 < b + 1
      · rw [if_pos z]; unfold sk; rw [if_pos (by omega)]
      · rw [if_neg z]
    rw [this]
    exact ⟨rfl, rfl, rfl, rfl, rfl, rfl, rfl, rfl⟩)
  refine ⟨nI (bn B - 1), ct &&& (x ^^^ (-1)), k₉, p₉, l₉, g₉, a₉, wd₉, hg₉, s₉, ?_, rfl, rfl, rfl, c4, ?_, ?_, ?_, ?_, ?_⟩
  · unfold f_Chart_drop
    rw [ev_b _ e1, ev_bnd, ev_bnd, nI_1, ev_b _ e2, un8_ap, ev_bnd, show nI (bn B) - 1 = nI (bn B - 1) from pk_sub (a := bn B) (b := 1) (by omega)]
  · intro f hf
    rw [tb_and, tb_not hf, t1 f hf, c5 f hf, tk_ot hP.1.2.1 hb hf, Bool.eq_iff_iff, otA_t, tkA_t]
    constructor
    · rintro ⟨c, y1, y2, y3⟩
      obtain ⟨i, i1, i2⟩ := sk_onto y1 y2 hb
      exact ⟨i, i1, by rw [drop_fb, i2]; exact y3⟩
    · rintro ⟨i, i1, i2⟩
      exact ⟨sk b i, sk_lt hb i1, sk_ne, i2⟩
  · intro i hi
    obtain ⟨q1, q2, q3, q4, q5, q6, q7, q8⟩ := q i hi
    rw [q1, q5, q6, q7, q8]
    exact c6 _ (sk_lt hb hi)
  · intro i hi
    rw [(q i hi).2.1]; exact c7 _ (sk_lt hb hi)
  · intro i hi
    rw [(q i hi).2.2.1]; exact c8 _ (sk_lt hb hi)
  · intro i hi e
    rw [(q i hi).2.2.2.1]; exact c9 _ (sk_lt hb hi) e
theorem m_removeL {n b : Nat} {k0 p0 s0 y0 g0 : Nat → Int32} (hn : n ≤ 12) (hb : b < n) :
    ∀ (r j m : Nat) (k p s y g : Nat → Int32), j + 1 + r = n → b ≤ j → r < m →
      (∀ i, k i = k0 (if i < j then sk b i else i) ∧ p i = p0 (if i < j then sk b i else i) ∧ s i = s0 (if i < j then sk b i else i) ∧ y i = y0 (if i < j then sk b i else i) ∧ g i = g0 (if i < j then sk b i else i)) →
      ∃ k₉ p₉ s₉ y₉ g₉, f_BargeBasinModel_remove_L2 (nI n) m (nI j) k p s y g = some (k₉, p₉, s₉, y₉, g₉) ∧ ∀ i, (i < n - 1 → k₉ i = k0 (sk b i) ∧ p₉ i = p0 (sk b i) ∧ s₉ i = s0 (sk b i) ∧ y₉ i = y0 (sk b i) ∧ g₉ i = g0 (sk b i)) ∧ (n - 1 ≤ i → k₉ i = k0 i ∧ p₉ i = p0 i ∧ s₉ i = s0 i ∧ y₉ i = y0 i ∧ g₉ i = g0 i) := by
  intro r
  induction r with
  | zero =>
    intro j m k p s y g h1 h2 h3 h4
    obtain ⟨m, rfl⟩ : ∃ z, m = z + 1 := ⟨m - 1, by omega⟩
    refine ⟨k, p, s, y, g, by rw [f_BargeBasinModel_remove_L2, nI_1, if_pos (nI_le (by omega) (by omega))], fun i => ⟨fun hi => ?_, fun hi => ?_⟩⟩
    · have := h4 i
      rw [if_pos (show i < j by omega)] at this
      exact this
    · have := h4 i
      rw [if_neg (show ¬ i < j by omega)] at this
      exact this
  | succ r ih =>
    intro j m k p s y g h1 h2 h3 h4
    obtain ⟨m, rfl⟩ : ∃ z, m = z + 1 := ⟨m - 1, by omega⟩
    have hj := h4 (j + 1)
    rw [if_neg (show ¬ j + 1 < j by omega)] at hj
    obtain ⟨q1, q2, q3, q4, q5⟩ := hj
    rw [f_BargeBasinModel_remove_L2]
    simp only [nI_1, if_neg (nI_ge (show j + 1 < n by omega) (show n < 2 ^ 31 by omega)), ev_grdN _ (show j + 1 < 12 by omega) (show 12 < 2 ^ 31 by decide), ev_grdN _ (show j < 12 by omega) (show 12 < 2 ^ 31 by decide), ev_bnd, cl_nI (show j < 12 by omega), cl_nI (show j + 1 < 12 by omega), q1, q2, q3, q4, q5]
    refine ih (j + 1) m _ _ _ _ _ (by omega) (by omega) (by omega) (fun i => ?_)
    by_cases z : i = j
    · subst z
      have e : (if i < i + 1 then sk b i else i) = i + 1 := by
        rw [if_pos (by omega)]; unfold sk; rw [if_neg (by omega)]
      rw [e]
      exact ⟨pk_us, pk_us, pk_us, pk_us, pk_us⟩
    · have e : (if i < j + 1 then sk b i else i) = (if i < j then sk b i else i) := by
        by_cases x : i < j
        · rw [if_pos x, if_pos (by omega)]
        · rw [if_neg x, if_neg (by omega)]
      rw [e, pk_un z, pk_un z, pk_un z, pk_un z, pk_un z]
      exact h4 i
theorem m_remove {B : Bas} {P : Nat → Nat} {b : Nat} {khas kw kh kn : Int32} {kwl kk kat ks ky kg : Nat → Int32} (h : basOk B) (hr : rfX B P khas kw kh kn kwl kk kat ks ky kg) (hb : b < bn B) :
    ∃ kn₉ kk₉ kat₉ ks₉ ky₉ kg₉, f_BargeBasinModel_remove (nI b) kn kk kat ks ky kg = some (kn₉, kk₉, kat₉, ks₉, ky₉, kg₉) ∧ rfX (dropB B b) (dropP P b) khas kw kh kn₉ kwl kk₉ kat₉ ks₉ ky₉ kg₉ := by
  obtain ⟨r1, r2, r3, r4, r5, r6, r7, r8⟩ := hr
  subst r1; subst r2; subst r3; subst r4
  have n12 := h.2.2.2.2.1
  obtain ⟨k₉, p₉, s₉, y₉, g₉, e, q⟩ := m_removeL (n := bn B) (k0 := kk) (p0 := kat) (s0 := ks) (y0 := ky) (g0 := kg) n12 hb (bn B - (b + 1)) b jN kk kat ks ky kg (by omega) (Nat.le_refl _) (by show _ < 2000000; omega) (fun i => by
    have : (if i < b then sk b i else i) = i := by
      by_cases z : i < b
      · rw [if_pos z]; unfold sk; rw [if_pos z]
      · rw [if_neg z]
    rw [this]
    exact ⟨rfl, rfl, rfl, rfl, rfl⟩)
  refine ⟨nI (bn B - 1), k₉, p₉, s₉, y₉, g₉, ?_, rfl, rfl, rfl, rfl, r5, ?_, ?_, ?_⟩
  · unfold f_BargeBasinModel_remove
    rw [ev_b _ e, un5_ap, ev_bnd, show nI (bn B) - 1 = nI (bn B - 1) from pk_sub (a := bn B) (b := 1) (by omega)]
  · intro i hi
    obtain ⟨q1, q2, q3, q4, q5⟩ := (q i).1 hi
    rw [q1, q3, q4]
    exact r6 _ (sk_lt hb hi)
  · intro i hi
    rw [((q i).1 hi).2.1]; exact r7 _ (sk_lt hb hi)
  · intro i hi e5
    rw [((q i).1 hi).2.2.2.2]; exact r8 _ (sk_lt hb hi) e5
theorem eq_lift {B : Bas} {P : Nat → Nat} {cw chh cn : Int32} {cwl ct : Int64} {ck cp cl cg ca cwd chg : Nat → Int32} {cs : Nat → Int64} {khas kw kh kn : Int32} {kwl kk kat ks ky kg : Nat → Int32} {lf ld lu um rm : Int32} {lm ub uf ut rb rf rt : Nat → Int32} (h : basOk B) (hP : stC B P) (hc : chX B P cw chh cn cwl ct ck cp cl cg ca cwd chg cs) (hr : rfX B P khas kw kh kn kwl kk kat ks ky kg) (hl : lgR B P lf ld lu lm um rm ub uf ut rb rf rt) (v1 st st2 th : Int32) :
    ∃ (ans st₉ cn₉ : Int32) (ct₉ : Int64) (ck₉ cp₉ cl₉ cg₉ ca₉ cwd₉ chg₉ : Nat → Int32) (cs₉ : Nat → Int64) (ld₉ lu₉ kn₉ um₉ rm₉ : Int32) (kk₉ kat₉ ks₉ ky₉ kg₉ : Nat → Int32) (B₉ : Bas) (Q : Nat → Nat), f_BargeBasin_lift v1 st cw cn ct ck cp cl cg ca cwd chg cs ld lu = some (ans, st₉, cn₉, ct₉, ck₉, cp₉, cl₉, cg₉, ca₉, cwd₉, chg₉, cs₉, ld₉, lu₉) ∧
      f_BargeBasinModel_lift v1 st2 th khas kn um rm kk kat ks ky kg = some (ans, st₉, 0, kn₉, um₉, rm₉, kk₉, kat₉, ks₉, ky₉, kg₉) ∧
      (B₉ = B ∨ ∃ b, b < bn B ∧ B₉ = dropB B b) ∧ basOk B₉ ∧ stC B₉ Q ∧ chX B₉ Q cw chh cn₉ cwl ct₉ ck₉ cp₉ cl₉ cg₉ ca₉ cwd₉ chg₉ cs₉ ∧ rfX B₉ Q khas kw kh kn₉ kwl kk₉ kat₉ ks₉ ky₉ kg₉ ∧ lgR B₉ Q lf ld₉ lu₉ lm um₉ rm₉ ub uf ut rb rf rt := by
  have n12 := h.2.2.2.2.1
  have h1 := hc.1
  have h3 := hc.2.2.1
  have g1 := hr.1
  have g4 := hr.2.2.2.1
  unfold f_BargeBasin_lift f_BargeBasinModel_lift
  rw [if_neg (show ¬ khas = 0 by rw [g1]; decide)]
  rcases ix3 v1 (show bn B < 2 ^ 31 by omega) with z | ⟨b, hb, z⟩
  · rw [show f_BargeBasin_faultOfBarge v1 cw cn = some 2 by rw [h1, h3]; exact fb_cn h z, show f_BargeBasinModel_isBarge v1 kn = some 0 by rw [g4]; exact ib_cn z, ev_b _ rfl, ev_b _ rfl, if_neg (show ¬ (2 : Int32) = 0 by decide), if_pos rfl]
    exact ⟨0, 2, cn, ct, ck, cp, cl, cg, ca, cwd, chg, cs, ld, lu, kn, um, rm, kk, kat, ks, ky, kg, B, P, rfl, rfl, Or.inl rfl, h, hP, hc, hr, hl⟩
  · subst z
    obtain ⟨cn₉, ct₉, ck₉, cp₉, cl₉, cg₉, ca₉, cwd₉, chg₉, cs₉, e1, x1⟩ := s_drop h hP hc hb
    obtain ⟨kn₉, kk₉, kat₉, ks₉, ky₉, kg₉, e2, x2⟩ := m_remove h hr hb
    rw [show f_BargeBasin_faultOfBarge (nI b) cw cn = some 0 by rw [h1, h3]; exact fb_c h hb, show f_BargeBasinModel_isBarge (nI b) kn = some 1 by rw [g4]; exact ib_c h hb, ev_b _ rfl, ev_b _ rfl, if_pos rfl, if_neg (show ¬ (1 : Int32) = 0 by decide), ev_b _ e1, un10_ap, ev_b _ e2, un6_ap]
    exact ⟨1, 0, cn₉, ct₉, ck₉, cp₉, cl₉, cg₉, ca₉, cwd₉, chg₉, cs₉, 0, 0, kn₉, 0, 0, kk₉, kat₉, ks₉, ky₉, kg₉, dropB B b, dropP P b, rfl, rfl, Or.inr ⟨b, hb, rfl⟩, drop_bas h hb, drop_st hP hb, x1, x2, lgR_forget hl (drop_st hP hb)⟩
end
section
/-! gate: both sides set the same gate. -/
def setG (B : Bas) (b g : Nat) : Bas := (bw B, bh B, bn B, bK B, bS B, bY B, updN (bG B) b g, bwl B)
theorem setG_bas {B : Bas} {b g : Nat} (h : basOk B) (hg : g < 64) : basOk (setG B b g) := by
  obtain ⟨h1, h2, h3, h4, h5, h6, h7⟩ := h
  refine ⟨h1, h2, h3, h4, h5, h6, fun i hi e => ?_⟩
  show updN (bG B) b g i < 64
  by_cases z : i = b
  · subst z; rw [updN_s]; exact hg
  · rw [updN_n z]; exact h7 i hi e
theorem setG_st {B : Bas} {P : Nat → Nat} {b g : Nat} (h : stC B P) (g1 : bY B b = 0 → P b / 8 = g / 8) (g2 : bY B b = 1 → P b % 8 = g % 8) (g3 : g % 8 + xW B b ≤ bw B) (g4 : g / 8 + xH B b ≤ bh B) : stC (setG B b g) P := by
  refine ⟨h.1, h.2.1, fun a ha e => ?_⟩
  show (bY B a = 0 → P a / 8 = updN (bG B) b g a / 8) ∧ (bY B a = 1 → P a % 8 = updN (bG B) b g a % 8) ∧ updN (bG B) b g a % 8 + xW B a ≤ bw B ∧ updN (bG B) b g a / 8 + xH B a ≤ bh B
  by_cases z : a = b
  · subst z; rw [updN_s]; exact ⟨g1, g2, g3, g4⟩
  · rw [updN_n z]; exact h.2.2 a ha e
theorem chG_upd {B : Bas} {b g : Nat} {kg : Nat → Int32} (h : chG B kg) : chG (setG B b g) (upd kg b (nI g)) := by
  intro i hi e
  show _ = nI (updN (bG B) b g i)
  by_cases z : i = b
  · subst z; rw [pk_us, updN_s]
  · rw [pk_un z, updN_n z]; exact h i hi e
/-- the gate lies on the barge's line, and the barge would lie inside there -/
def onL (B : Bas) (P : Nat → Nat) (b x y : Nat) : Bool := (if bY B b = 1 then decide (x = P b % 8) else decide (y = P b / 8)) && decide (x + xW B b ≤ bw B ∧ y + xH B b ≤ bh B)
theorem s_isOnLine {B : Bas} {P : Nat → Nat} {b x y : Nat} {ck ca cwd chg cp : Nat → Int32} {cs : Nat → Int64} (h : basOk B) (hP : stC B P) (hc : chB B ck ca cwd chg cs) (hp : chP B P cp) (hb : b < bn B) (hx : x < 8) (hy : y < 8) : f_Chart_isOnLine (nI b) (nI x) (nI y) (nI (bw B)) (nI (bh B)) cp ca cwd chg = some (bI (onL B P b x y)) := by
  obtain ⟨a1, a2, a3, a4, a5, a6, a7, a8⟩ := basOk_wh h hb
  obtain ⟨k1, k2, k3, k4, k5⟩ := hc b hb
  have p64 := ins_64 h hP.1.1 hb
  have w8 := h.2.1
  have h8 := h.2.2.2.1
  have ins := s_isInside (x := nI x) (y := nI y) (W := xW B b) (H := xH B b) w8 h8 (by omega) (by omega)
  rw [nI_toInt (show x < 2 ^ 31 by omega), nI_toInt (show y < 2 ^ 31 by omega)] at ins
  have J : ∀ c : Bool, f_Chart_isOnLine_J47 (nI b) (nI x) (nI y) (bI c) (nI (bw B)) (nI (bh B)) cwd chg = some (bI (c && decide (x + xW B b ≤ bw B ∧ y + xH B b ≤ bh B))) := by
    intro c
    unfold f_Chart_isOnLine_J47
    cases c with
    | false => rfl
    | true =>
      rw [if_neg (show ¬ bI true = 0 by decide), ev_grdN _ a1 (by decide), ev_grdN _ a1 (by decide), cl_nI a1, k3, k4, ev_b _ ins, Bool.true_and]
      have de : decide (0 ≤ (x : Int) ∧ (x : Int) + xW B b ≤ bw B ∧ 0 ≤ (y : Int) ∧ (y : Int) + xH B b ≤ bh B) = decide (x + xW B b ≤ bw B ∧ y + xH B b ≤ bh B) := decide_eq_decide.mpr (by omega)
      rw [de]
      cases decide (x + xW B b ≤ bw B ∧ y + xH B b ≤ bh B) <;> rfl
  unfold f_Chart_isOnLine onL
  rw [ev_grdN _ a1 (by decide), ev_grdN _ a1 (by decide), ev_grdN _ a1 (by decide), cl_nI a1, k2, hp b hb, and7 p64, shr3 _ p64]
  have e1 : (nI y = nI (P b / 8)) = (y = P b / 8) := nI_eqL (by omega) (by omega)
  have e2 : (nI x = nI (P b % 8)) = (x = P b % 8) := nI_eqL (by omega) (by omega)
  simp only [e1, e2]
  rw [show (1 : Int32) = bI true from rfl, J true]
  have J0 := J false
  rw [show bI false = (0 : Int32) from rfl] at J0
  rw [J0]
  by_cases z : bY B b = 1
  · rw [if_pos z, decide_eq_true z, if_neg (show ¬ bI true = 0 by decide)]
    by_cases q : x = P b % 8
    · rw [if_pos q, decide_eq_true q]
    · rw [if_neg q, decide_eq_false q]
  · rw [if_neg z, decide_eq_false z, if_pos (show bI false = 0 by decide)]
    by_cases q : y = P b / 8
    · rw [if_pos q, decide_eq_true q]
    · rw [if_neg q, decide_eq_false q]
theorem eq_gate {B : Bas} {P : Nat → Nat} {cw chh cn : Int32} {cwl ct : Int64} {ck cp cl cg ca cwd chg : Nat → Int32} {cs : Nat → Int64} {khas kw kh kn : Int32} {kwl kk kat ks ky kg : Nat → Int32} {lf ld lu um rm : Int32} {lm ub uf ut rb rf rt : Nat → Int32} (h : basOk B) (hP : stC B P) (hc : chX B P cw chh cn cwl ct ck cp cl cg ca cwd chg cs) (hr : rfX B P khas kw kh kn kwl kk kat ks ky kg) (hl : lgR B P lf ld lu lm um rm ub uf ut rb rf rt) (v1 v2 v3 st st2 th : Int32) :
    ∃ (ans st₉ : Int32) (cg₉ : Nat → Int32) (ld₉ lu₉ um₉ rm₉ : Int32) (kg₉ : Nat → Int32) (B₉ : Bas), f_BargeBasin_gate v1 v2 v3 st cw chh cn ck cp cg ca cwd chg ld lu = some (ans, st₉, cg₉, ld₉, lu₉) ∧
      f_BargeBasinModel_gate v1 v2 v3 st2 th khas kw kh kn um rm kk kat ks ky kg = some (ans, st₉, 0, um₉, rm₉, kg₉) ∧
      (B₉ = B ∨ ∃ b x y, b < bn B ∧ bK B b = 5 ∧ x + xW B b ≤ bw B ∧ y + xH B b ≤ bh B ∧ B₉ = setG B b (x + 8 * y)) ∧ basOk B₉ ∧ stC B₉ P ∧ chX B₉ P cw chh cn cwl ct ck cp cl cg₉ ca cwd chg cs ∧ rfX B₉ P khas kw kh kn kwl kk kat ks ky kg₉ ∧ lgR B₉ P lf ld₉ lu₉ lm um₉ rm₉ ub uf ut rb rf rt := by
  have n12 := h.2.2.2.2.1
  have w8 := h.2.1
  have h8 := h.2.2.2.1
  have hc0 := hc
  have hr0 := hr
  obtain ⟨c1, c2, c3, c4, c5, c6, c7, c8, c9⟩ := hc
  obtain ⟨r1, r2, r3, r4, r5, r6, r7, r8⟩ := hr
  subst c1; subst c2; subst c3; subst r1; subst r2; subst r3; subst r4
  unfold f_BargeBasin_gate f_BargeBasinModel_gate
  rw [if_neg (show ¬ (1 : Int32) = 0 by decide)]
  rcases ix3 v1 (show bn B < 2 ^ 31 by omega) with z | ⟨b, hb, z⟩
  · rw [ev_b _ (fb_cn h z), ev_b _ (ib_cn z), if_neg (show ¬ (2 : Int32) = 0 by decide), if_pos rfl]
    exact ⟨0, 2, cg, ld, lu, um, rm, kg, B, rfl, rfl, Or.inl rfl, h, hP, hc0, hr0, hl⟩
  · subst z
    obtain ⟨a1, a2, a3, a4, a5, a6, a7, a8⟩ := basOk_wh h hb
    obtain ⟨k1, k2, k3, k4, k5⟩ := c6 b hb
    obtain ⟨m1, m2, m3⟩ := r6 b hb
    have p64 := ins_64 h hP.1.1 hb
    rw [ev_b _ (fb_c h hb), ev_b _ (ib_c h hb), if_pos rfl, if_neg (show ¬ (1 : Int32) = 0 by decide)]
    rcases fld (v1 := v2) (v2 := v3) h with ⟨x, y, hx, hy, ex, ey, f1, f2⟩ | ⟨-, f1, f2⟩
    · rw [ev_b _ f1, ev_b _ f2, if_pos rfl, if_neg (show ¬ (1 : Int32) = 0 by decide)]
      subst ex; subst ey
      have ce : (nI (bK B b) = 5) = (bK B b = 5) := nI_eqL (j := 5) (by omega) (by decide)
      simp only [ev_grdN _ a1 (show 12 < 2 ^ 31 by decide), cl_nI a1, k1, m1, m3, r7 b hb, ce]
      by_cases k5₉ : bK B b = 5
      · rw [if_pos k5₉, if_pos k5₉, ev_b _ (s_isOnLine h hP c6 c7 hb (by omega) (by omega)), ev_div _ (by decide), ev_div _ (by decide), geo_r8 (show P b < 2 ^ 31 by omega), geo_d8 (show P b < 2 ^ 31 by omega)]
        have e1 : (nI y = nI (P b / 8)) = (y = P b / 8) := nI_eqL (by omega) (by omega)
        have e2 : (nI x = nI (P b % 8)) = (x = P b % 8) := nI_eqL (by omega) (by omega)
        have e3 : (nI (bY B b) = 0) = (bY B b = 0) := nI_eqL (j := 0) (by omega) (by decide)
        simp only [e1, e2, e3]
        have J : ∀ c : Bool, f_BargeBasinModel_gate_J110 (nI b) (nI x) (nI y) (bI c) 0 0 (nI (bw B)) (nI (bh B)) um rm kk ks ky kg = if (c && decide (x + xW B b ≤ bw B ∧ y + xH B b ≤ bh B)) = true then some (1, 0, 0, 0, 0, upd kg b (nI (x + 8 * y))) else some (0, 7, 0, um, rm, kg) := by
          intro c
          unfold f_BargeBasinModel_gate_J110
          cases c with
          | false => rfl
          | true =>
            rw [if_neg (show ¬ bI true = 0 by decide), ev_b _ (m_wide a1 m1 m2 m3 a2 a3), nI_add, ev_b _ (m_tall a1 m1 m2 m3 a2 a3), nI_add, i8, nI_add, ev_bnd, ev_grdN _ a1 (by decide), cl_nI a1, Bool.true_and]
            simp only [nI_ltE (show bw B < 2 ^ 31 by omega) (show x + bW (bK B b) (bS B b) (bY B b) < 2 ^ 31 by have : bW (bK B b) (bS B b) (bY B b) < 5 := a5; omega), nI_leE (show y + bH (bK B b) (bS B b) (bY B b) < 2 ^ 31 by have : bH (bK B b) (bS B b) (bY B b) < 5 := a7; omega) (show bh B < 2 ^ 31 by omega)]
            by_cases q1 : bw B < x + xW B b
            · rw [if_pos (show bw B < x + bW (bK B b) (bS B b) (bY B b) from q1), if_neg (by rw [decide_eq_true_eq]; omega)]; rfl
            · rw [if_neg (show ¬ bw B < x + bW (bK B b) (bS B b) (bY B b) from q1)]
              by_cases q2 : y + xH B b ≤ bh B
              · rw [if_pos (show y + bH (bK B b) (bS B b) (bY B b) ≤ bh B from q2), if_pos (by rw [decide_eq_true_eq]; omega)]; rfl
              · rw [if_neg (show ¬ y + bH (bK B b) (bS B b) (bY B b) ≤ bh B from q2), if_neg (by rw [decide_eq_true_eq]; omega)]; rfl
        have J1 := J true
        have J0 := J false
        rw [show bI true = (1 : Int32) from rfl] at J1
        rw [show bI false = (0 : Int32) from rfl] at J0
        have R : (if bY B b = 0 then if y = P b / 8 then f_BargeBasinModel_gate_J110 (nI b) (nI x) (nI y) 1 0 0 (nI (bw B)) (nI (bh B)) um rm kk ks ky kg else f_BargeBasinModel_gate_J110 (nI b) (nI x) (nI y) 0 0 0 (nI (bw B)) (nI (bh B)) um rm kk ks ky kg else if x = P b % 8 then f_BargeBasinModel_gate_J110 (nI b) (nI x) (nI y) 1 0 0 (nI (bw B)) (nI (bh B)) um rm kk ks ky kg else f_BargeBasinModel_gate_J110 (nI b) (nI x) (nI y) 0 0 0 (nI (bw B)) (nI (bh B)) um rm kk ks ky kg) = if onL B P b x y = true then some (1, 0, 0, 0, 0, upd kg b (nI (x + 8 * y))) else some (0, 7, 0, um, rm, kg) := by
          rw [J1, J0]
          unfold onL
          by_cases z : bY B b = 1
          · rw [if_neg (show ¬ bY B b = 0 by omega), if_pos z]
            by_cases q : x = P b % 8
            · rw [if_pos q, decide_eq_true q]
            · rw [if_neg q, decide_eq_false q]
          · rw [if_pos (show bY B b = 0 by omega), if_neg z]
            by_cases q : y = P b / 8
            · rw [if_pos q, decide_eq_true q]
            · rw [if_neg q, decide_eq_false q]
        rw [R]
        cases eo : onL B P b x y with
        | false =>
          rw [if_pos (show bI false = 0 by decide), if_neg (show ¬ false = true by decide)]
          exact ⟨0, 7, cg, ld, lu, um, rm, kg, B, rfl, rfl, Or.inl rfl, h, hP, hc0, hr0, hl⟩
        | true =>
          have inb : x + xW B b ≤ bw B ∧ y + xH B b ≤ bh B := by
            unfold onL at eo
            rw [Bool.and_eq_true, decide_eq_true_eq] at eo
            exact eo.2
          have e8 : (8 : Int32) * nI y + nI x = nI (x + 8 * y) := by rw [i8, nI_add, Nat.add_comm]
          rw [if_neg (show ¬ bI true = 0 by decide), if_pos rfl, e8, ev_bnd]
          have sb := setG_bas (b := b) h (show x + 8 * y < 64 by omega)
          have onl : (if bY B b = 1 then decide (x = P b % 8) else decide (y = P b / 8)) = true := by
            unfold onL at eo
            rw [Bool.and_eq_true] at eo
            exact eo.1
          have sg : stC (setG B b (x + 8 * y)) P := setG_st hP (fun y0 => by
            rw [if_neg (show ¬ bY B b = 1 by omega), decide_eq_true_eq] at onl
            omega) (fun y1 => by
            rw [if_pos y1, decide_eq_true_eq] at onl
            omega) (by omega) (by omega)
          exact ⟨1, 0, upd cg b (nI (x + 8 * y)), 0, 0, 0, 0, upd kg b (nI (x + 8 * y)), setG B b (x + 8 * y), rfl, rfl, Or.inr ⟨b, x, y, hb, k5₉, inb.1, inb.2, rfl⟩, sb, sg, ⟨rfl, rfl, rfl, c4, c5, c6, c7, c8, chG_upd c9⟩, ⟨rfl, rfl, rfl, rfl, r5, r6, r7, chG_upd r8⟩, lgR_forget hl sg⟩
      · rw [if_neg k5₉, if_neg k5₉]
        exact ⟨0, 5, cg, ld, lu, um, rm, kg, B, rfl, rfl, Or.inl rfl, h, hP, hc0, hr0, hl⟩
    · rw [ev_b _ f1, ev_b _ f2, if_neg (show ¬ (1 : Int32) = 0 by decide), if_pos rfl]
      exact ⟨0, 2, cg, ld, lu, um, rm, kg, B, rfl, rfl, Or.inl rfl, h, hP, hc0, hr0, hl⟩
end
section
/-! Where a new barge would lie: fits and add of the class, againstAny of the reference. -/
def fitA (B : Bas) (P : Nat → Nat) (W H x y : Nat) : Bool := decide (x + W ≤ bw B ∧ y + H ≤ bh B) && !anyF (fun f => inB x y W H f && (bwl B f || tkA B P f))
theorem bWH {k s y : Nat} (h : bgOk k s y) : (if decide (y = 1) = true then 1 else s) = bW k s y ∧ (if decide (y = 1) = true then s else if k = 3 then s else 1) = bH k s y := by
  obtain ⟨h1, h2, h3⟩ := h
  have hy : y = 0 ∨ y = 1 := by omega
  unfold lenOk at h1
  have hk : k = 1 ∨ k = 2 ∨ k = 3 ∨ k = 4 ∨ k = 5 := by omega
  rcases hk with e | e | e | e | e <;> subst e <;> rcases hy with e | e <;> subst e <;> simp [bW, bH] at * <;> omega
theorem s_fits {B : Bas} {P : Nat → Nat} {k s yy x y : Nat} {cwl ct : Int64} (h : basOk B) (hw : chW B cwl) (ht : chT B P ct) (hg : bgOk k s yy) (hx : x < bw B) (hy : y < bh B) : f_Chart_fits (nI k) (nI x) (nI y) (nI s) (bI (decide (yy = 1))) (nI (bw B)) (nI (bh B)) cwl ct = some (bI (fitA B P (bW k s yy) (bH k s yy) x y)) := by
  obtain ⟨g1, g2, g3, g4, g5, g6, g7⟩ := bgOk_wh hg
  obtain ⟨e1, e2⟩ := bWH hg
  have w8 := h.2.1
  have h8 := h.2.2.2.1
  have a1 := s_wideOf (n := s) (decide (yy = 1))
  have a2 := s_highOf (n := s) g1 (decide (yy = 1))
  rw [e1] at a1
  rw [e2] at a2
  have ins := s_isInside (x := nI x) (y := nI y) (W := bW k s yy) (H := bH k s yy) w8 h8 (by omega) (by omega)
  rw [nI_toInt (show x < 2 ^ 31 by omega), nI_toInt (show y < 2 ^ 31 by omega)] at ins
  have de : decide (0 ≤ (x : Int) ∧ (x : Int) + bW k s yy ≤ bw B ∧ 0 ≤ (y : Int) ∧ (y : Int) + bH k s yy ≤ bh B) = decide (x + bW k s yy ≤ bw B ∧ y + bH k s yy ≤ bh B) := decide_eq_decide.mpr (by omega)
  rw [de] at ins
  have e8 : (8 : Int32) * nI y + nI x = nI (x + 8 * y) := by rw [i8, nI_add, Nat.add_comm]
  unfold f_Chart_fits fitA
  rw [ev_b _ a1, ev_b _ a2, ev_b _ ins]
  by_cases c : x + bW k s yy ≤ bw B ∧ y + bH k s yy ≤ bh B
  · rw [decide_eq_true c, if_neg (show ¬ bI true = 0 by decide), ev_b _ (s_shapeOf (by omega)), e8]
    simp only [cmp0, and0]
    have ea : anyF (fun f => tb (jlshl (shp (bW k s yy) (bH k s yy)) (nI (x + 8 * y))) f && tb (cwl ||| ct) f) = anyF (fun f => inB x y (bW k s yy) (bH k s yy) f && (bwl B f || tkA B P f)) := anyF_cg fun f hf => by
      rw [shp_at (show x + 8 * y < 64 by omega) g4 g6 (by omega) hf, tb_or, hw f hf, ht f hf, show (x + 8 * y) % 8 = x by omega, show (x + 8 * y) / 8 = y by omega]
    rw [ea]
    cases anyF (fun f => inB x y (bW k s yy) (bH k s yy) f && (bwl B f || tkA B P f)) <;> rfl
  · rw [decide_eq_false c]; rfl
theorem m_aaL48 {b X Y j W : Nat} {kwl kk ks ky kwho : Nat → Int32} {wl : Nat → Bool} {wo : Nat → Option Nat}
    (hw : f_BargeBasinModel_wide (nI b) kk ks ky = some (nI W)) (hwl : ∀ f, f < 64 → kwl f = bI (wl f)) (hwo : ∀ f, f < 64 → kwho f = oI (wo f)) (ho : ∀ f c, wo f = some c → c < 12) (hX : X + W ≤ 8) (hj : j < 8) :
    ∀ (r i n : Nat), i + r = X + W → r < n → ∃ t : Bool, f_BargeBasinModel_againstAny_L48 (nI b) (nI X) (nI Y) (nI j) kwl kk ks ky kwho n (nI i) = some (if t then .inl () else .inr ()) ∧ (t = true ↔ ∃ x, i ≤ x ∧ x < X + W ∧ (wl (x + 8 * j) = true ∨ wo (x + 8 * j) ≠ none)) := by
  intro r
  induction r with
  | zero =>
    intro i n h1 h2
    obtain ⟨n, rfl⟩ : ∃ z, n = z + 1 := ⟨n - 1, by omega⟩
    exact ⟨false, by rw [f_BargeBasinModel_againstAny_L48, ev_b _ hw, nI_add, if_pos (nI_le (by omega) (by omega))]; rfl, fun z => by (cases z), fun ⟨x, q1, q2, _⟩ => by omega⟩
  | succ r ih =>
    intro i n h1 h2
    obtain ⟨n, rfl⟩ : ∃ z, n = z + 1 := ⟨n - 1, by omega⟩
    have o31 : ∀ c, wo (i + 8 * j) = some c → c < 2 ^ 31 := fun c hc => by have := ho _ c hc; omega
    rw [f_BargeBasinModel_againstAny_L48, ev_b _ hw, nI_add, if_neg (nI_ge (by omega) (by omega)), i8, nI_add, ev_grdN _ (show i + 8 * j < 64 by omega) (by decide), ev_grdN _ (show i + 8 * j < 64 by omega) (by decide), nI_clamp (show i + 8 * j < 2 ^ 31 by omega), hwl _ (show i + 8 * j < 64 by omega), hwo _ (show i + 8 * j < 64 by omega)]
    simp only [oI_neg o31, ev_bnd, nI_1]
    cases ew : wl (i + 8 * j) with
    | true =>
      rw [if_neg (show ¬ bI true = 0 by decide)]
      exact ⟨true, rfl, fun _ => ⟨i, Nat.le_refl _, by omega, Or.inl ew⟩, fun _ => rfl⟩
    | false =>
      rw [if_pos (show bI false = 0 by decide)]
      by_cases eo : wo (i + 8 * j) = none
      · obtain ⟨t, e, q⟩ := ih (i + 1) n (by omega) (by omega)
        refine ⟨t, by rw [if_pos eo]; exact e, ?_⟩
        rw [q]
        constructor
        · rintro ⟨x, x1, x2, x3⟩; exact ⟨x, by omega, x2, x3⟩
        · rintro ⟨x, x1, x2, x3⟩
          by_cases z : x = i
          · subst z
            rcases x3 with y | y
            · rw [ew] at y; cases y
            · exact absurd eo y
          · exact ⟨x, by omega, x2, x3⟩
      · rw [if_neg eo]
        exact ⟨true, rfl, fun _ => ⟨i, Nat.le_refl _, by omega, Or.inr eo⟩, fun _ => rfl⟩
theorem m_aaL33 {b X Y W H : Nat} {kwl kk ks ky kwho : Nat → Int32} {wl : Nat → Bool} {wo : Nat → Option Nat}
    (hw : f_BargeBasinModel_wide (nI b) kk ks ky = some (nI W)) (ht : f_BargeBasinModel_tall (nI b) kk ks ky = some (nI H)) (hwl : ∀ f, f < 64 → kwl f = bI (wl f)) (hwo : ∀ f, f < 64 → kwho f = oI (wo f)) (ho : ∀ f c, wo f = some c → c < 12) (hX : X + W ≤ 8) (hY : Y + H ≤ 8) :
    ∀ (r j n : Nat), j + r = Y + H → r < n → ∃ t : Bool, f_BargeBasinModel_againstAny_L33 (nI b) (nI X) (nI Y) kwl kk ks ky kwho n (nI j) = some (if t then .inl () else .inr ()) ∧ (t = true ↔ ∃ z x, j ≤ z ∧ z < Y + H ∧ X ≤ x ∧ x < X + W ∧ (wl (x + 8 * z) = true ∨ wo (x + 8 * z) ≠ none)) := by
  intro r
  induction r with
  | zero =>
    intro j n h1 h2
    obtain ⟨n, rfl⟩ : ∃ z, n = z + 1 := ⟨n - 1, by omega⟩
    exact ⟨false, by rw [f_BargeBasinModel_againstAny_L33, ev_b _ ht, nI_add, if_pos (nI_le (by omega) (by omega))]; rfl, fun z => by (cases z), fun ⟨z, x, q1, q2, _⟩ => by omega⟩
  | succ r ih =>
    intro j n h1 h2
    obtain ⟨n, rfl⟩ : ∃ z, n = z + 1 := ⟨n - 1, by omega⟩
    obtain ⟨t, e, q⟩ := m_aaL48 (Y := Y) hw hwl hwo ho hX (show j < 8 by omega) W X jN (by omega) (by show W < 2000000; omega)
    rw [f_BargeBasinModel_againstAny_L33, ev_b _ ht, nI_add, if_neg (nI_ge (by omega) (by omega)), ev_b _ e]
    cases t with
    | true =>
      obtain ⟨x, x1, x2, x3⟩ := q.mp rfl
      exact ⟨true, rfl, fun _ => ⟨j, x, Nat.le_refl _, by omega, x1, x2, x3⟩, fun _ => rfl⟩
    | false =>
      obtain ⟨t2, e2, q2⟩ := ih (j + 1) n (by omega) (by omega)
      rw [if_neg (by decide), jsel_r, un0_ap, ev_bnd, nI_1]
      refine ⟨t2, e2, ?_⟩
      rw [q2]
      constructor
      · rintro ⟨z, x, z1, z2⟩; exact ⟨z, x, by omega, z2⟩
      · rintro ⟨z, x, z1, z2, x1, x2, x3⟩
        by_cases y : z = j
        · subst y
          have := q.mpr ⟨x, x1, x2, x3⟩
          cases this
        · exact ⟨z, x, by omega, z2, x1, x2, x3⟩
theorem who_tk {B : Bas} {P : Nat → Nat} {f : Nat} : whoN (fbA B P) (bn B) f ≠ none ↔ tkA B P f = true := by
  rw [tkA_t]
  constructor
  · intro h
    cases e : whoN (fbA B P) (bn B) f with
    | none => exact absurd e h
    | some c => exact ⟨c, whoN_mem e⟩
  · rintro ⟨c, c1, c2⟩ e
    rw [whoN_none.mp e c c1] at c2; cases c2
theorem m_againstAny {B : Bas} {P : Nat → Nat} {b W H x y : Nat} {kwl kk ks ky kwho : Nat → Int32} (h : basOk B) (hwl : rfW B kwl) (ho : rfO B P kwho) (hw : f_BargeBasinModel_wide (nI b) kk ks ky = some (nI W)) (ht : f_BargeBasinModel_tall (nI b) kk ks ky = some (nI H)) (hW : W < 5) (hH : H < 5) (hx : x < bw B) (hy : y < bh B) :
    ∃ r, f_BargeBasinModel_againstAny (nI b) (nI x) (nI y) (nI (bw B)) (nI (bh B)) kwl kk ks ky kwho = some (nI r) ∧ r < 4 ∧ (r = 0 ↔ fitA B P W H x y = true) := by
  have w8 := h.2.1
  have h8 := h.2.2.2.1
  have n12 := h.2.2.2.2.1
  unfold f_BargeBasinModel_againstAny fitA
  rw [ev_b _ hw, nI_add, ev_b _ ht, nI_add]
  simp only [nI_ltE (show bw B < 2 ^ 31 by omega) (show x + W < 2 ^ 31 by omega), nI_leE (show y + H < 2 ^ 31 by omega) (show bh B < 2 ^ 31 by omega)]
  by_cases c1 : bw B < x + W
  · rw [if_pos c1]
    exact ⟨2, rfl, by decide, fun z => by (cases z), fun z => by rw [Bool.and_eq_true, decide_eq_true_eq] at z; omega⟩
  · rw [if_neg c1]
    by_cases c2 : y + H ≤ bh B
    · rw [if_pos c2]
      obtain ⟨t, e, q⟩ := m_aaL33 (X := x) (Y := y) hw ht hwl ho (fun f c e => by have := whoN_mem e; omega) (by omega) (by omega) H y jN (by omega) (by show H < 2000000; omega)
      rw [ev_b _ e]
      have ea : anyF (fun f => inB x y W H f && (bwl B f || tkA B P f)) = t := by
        rw [Bool.eq_iff_iff, ← box_any (p := fun f => bwl B f || tkA B P f) (by omega) (by omega), q]
        constructor
        · rintro ⟨z, u, q1, q2, q3, q4, q5⟩
          refine ⟨z, u, q1, q2, q3, q4, ?_⟩
          have q5₉ : (bwl B (u + 8 * z) || tkA B P (u + 8 * z)) = true := q5
          rw [Bool.or_eq_true] at q5₉
          rcases q5₉ with v | v
          · exact Or.inl v
          · exact Or.inr (who_tk.mpr v)
        · rintro ⟨z, u, q1, q2, q3, q4, q5⟩
          refine ⟨z, u, q1, q2, q3, q4, ?_⟩
          show (bwl B (u + 8 * z) || tkA B P (u + 8 * z)) = true
          rw [Bool.or_eq_true]
          rcases q5 with v | v
          · exact Or.inl v
          · exact Or.inr (who_tk.mp v)
      rw [ea, decide_eq_true (show x + W ≤ bw B ∧ y + H ≤ bh B by omega)]
      cases t with
      | true => exact ⟨3, rfl, by decide, fun z => by (cases z), fun z => by cases z⟩
      | false => exact ⟨0, rfl, by decide, fun _ => rfl, fun _ => rfl⟩
    · rw [if_neg c2]
      exact ⟨2, rfl, by decide, fun z => by (cases z), fun z => by rw [Bool.and_eq_true, decide_eq_true_eq] at z; omega⟩
/-! One barge more. -/
def addB (B : Bas) (k s y p : Nat) : Bas := (bw B, bh B, bn B + 1, updN (bK B) (bn B) k, updN (bS B) (bn B) s, updN (bY B) (bn B) y, updN (bG B) (bn B) p, bwl B)
theorem add_x {B : Bas} {k s y p i : Nat} : xW (addB B k s y p) i = (if i = bn B then bW k s y else xW B i) ∧ xH (addB B k s y p) i = (if i = bn B then bH k s y else xH B i) := by
  show bW (updN (bK B) (bn B) k i) (updN (bS B) (bn B) s i) (updN (bY B) (bn B) y i) = _ ∧ bH (updN (bK B) (bn B) k i) (updN (bS B) (bn B) s i) (updN (bY B) (bn B) y i) = _
  by_cases e : i = bn B
  · rw [if_pos e, if_pos e, e, updN_s, updN_s, updN_s]; exact ⟨rfl, rfl⟩
  · rw [if_neg e, if_neg e, updN_n e, updN_n e, updN_n e]; exact ⟨rfl, rfl⟩
theorem add_fb {B : Bas} {P : Nat → Nat} {k s y p i f : Nat} : fbA (addB B k s y p) (updN P (bn B) p) i f = if i = bn B then inB (p % 8) (p / 8) (bW k s y) (bH k s y) f else fbA B P i f := by
  unfold fbA
  rw [add_x.1, add_x.2]
  by_cases e : i = bn B
  · rw [if_pos e, if_pos e, if_pos e, e, updN_s]
  · rw [if_neg e, if_neg e, if_neg e, updN_n e]
theorem add_bas {B : Bas} {k s y p : Nat} (h : basOk B) (hg : bgOk k s y) (hn : bn B < 12) (hp : p < 64) : basOk (addB B k s y p) := by
  obtain ⟨h1, h2, h3, h4, h5, h6, h7⟩ := h
  refine ⟨h1, h2, h3, h4, by show bn B + 1 ≤ 12; omega, fun i hi => ?_, fun i hi e => ?_⟩
  · have hi₉ : i < bn B + 1 := hi
    show bgOk (updN (bK B) (bn B) k i) (updN (bS B) (bn B) s i) (updN (bY B) (bn B) y i)
    by_cases z : i = bn B
    · rw [z, updN_s, updN_s, updN_s]; exact hg
    · rw [updN_n z, updN_n z, updN_n z]; exact h6 i (by omega)
  · have hi₉ : i < bn B + 1 := hi
    show updN (bG B) (bn B) p i < 64
    by_cases z : i = bn B
    · rw [z, updN_s]; exact hp
    · rw [updN_n z]
      have e₉ : updN (bK B) (bn B) k i = 5 := e
      rw [updN_n z] at e₉
      exact h7 i (by omega) e₉
theorem add_st {B : Bas} {P : Nat → Nat} {k s yy x y : Nat} (h : basOk B) (hP : stC B P) (hg : bgOk k s yy) (hf : fitA B P (bW k s yy) (bH k s yy) x y = true) : stC (addB B k s yy (x + 8 * y)) (updN P (bn B) (x + 8 * y)) := by
  obtain ⟨g1, g2, g3, g4, g5, g6, g7⟩ := bgOk_wh hg
  have w8 := h.2.1
  have h8 := h.2.2.2.1
  unfold fitA at hf
  rw [Bool.and_eq_true, decide_eq_true_eq, Bool.not_eq_true', anyF_f] at hf
  obtain ⟨⟨f1, f2⟩, f3⟩ := hf
  have px : (x + 8 * y) % 8 = x := by omega
  have py : (x + 8 * y) / 8 = y := by omega
  have new : ∀ f, f < 64 → inB ((x + 8 * y) % 8) ((x + 8 * y) / 8) (bW k s yy) (bH k s yy) f = true → bwl B f = false ∧ tkA B P f = false := by
    intro f hf z
    rw [px, py] at z
    have := f3 f hf
    rw [z, Bool.true_and, Bool.or_eq_false_iff] at this
    exact this
  refine ⟨⟨fun i hi => ?_, fun i j f hi hj hf e1 e2 => ?_, fun i f hi hf e => ?_⟩, fun i hi => ?_, fun i hi e => ?_⟩
  · have hi₉ : i < bn B + 1 := hi
    rw [add_x.1, add_x.2]
    by_cases z : i = bn B
    · rw [if_pos z, if_pos z, z, updN_s, px, py]; exact ⟨f1, f2⟩
    · rw [if_neg z, if_neg z, updN_n z]; exact hP.1.1 i (by omega)
  · have hi₉ : i < bn B + 1 := hi
    have hj₉ : j < bn B + 1 := hj
    rw [add_fb] at e1 e2
    by_cases z : i = bn B
    · rw [if_pos z] at e1
      by_cases z2 : j = bn B
      · rw [z, z2]
      · rw [if_neg z2] at e2
        have := (new f hf e1).2
        rw [tkA_t.mpr ⟨j, by omega, e2⟩] at this; cases this
    · rw [if_neg z] at e1
      by_cases z2 : j = bn B
      · rw [if_pos z2] at e2
        have := (new f hf e2).2
        rw [tkA_t.mpr ⟨i, by omega, e1⟩] at this; cases this
      · rw [if_neg z2] at e2
        exact hP.1.2.1 i j f (by omega) (by omega) hf e1 e2
  · have hi₉ : i < bn B + 1 := hi
    rw [add_fb] at e
    by_cases z : i = bn B
    · rw [if_pos z] at e; exact (new f hf e).1
    · rw [if_neg z] at e; exact hP.1.2.2 i f (by omega) hf e
  · have hi₉ : bn B + 1 ≤ i := hi
    rw [updN_n (by omega)]
    exact hP.2.1 i (by omega)
  · have hi₉ : i < bn B + 1 := hi
    show (updN (bY B) (bn B) yy i = 0 → updN P (bn B) (x + 8 * y) i / 8 = updN (bG B) (bn B) (x + 8 * y) i / 8) ∧ (updN (bY B) (bn B) yy i = 1 → updN P (bn B) (x + 8 * y) i % 8 = updN (bG B) (bn B) (x + 8 * y) i % 8) ∧ updN (bG B) (bn B) (x + 8 * y) i % 8 + bW (updN (bK B) (bn B) k i) (updN (bS B) (bn B) s i) (updN (bY B) (bn B) yy i) ≤ bw B ∧ updN (bG B) (bn B) (x + 8 * y) i / 8 + bH (updN (bK B) (bn B) k i) (updN (bS B) (bn B) s i) (updN (bY B) (bn B) yy i) ≤ bh B
    by_cases z : i = bn B
    · subst z
      simp only [updN_s]
      exact ⟨fun _ => trivial, fun _ => trivial, by omega, by omega⟩
    · simp only [updN_n z]
      exact hP.2.2 i (by omega) (by have e₉ : updN (bK B) (bn B) k i = 5 := e; rw [updN_n z] at e₉; exact e₉)
theorem s_add {B : Bas} {P : Nat → Nat} {k s yy p : Nat} {cw chh cn : Int32} {cwl ct : Int64} {ck cp cl cg ca cwd chg : Nat → Int32} {cs : Nat → Int64} (h : basOk B) (hc : chX B P cw chh cn cwl ct ck cp cl cg ca cwd chg cs) (hg : bgOk k s yy) (hn : bn B < 12) (hp : p < 64) (hpw : p % 8 + bW k s yy ≤ 8) :
    ∃ ct₉ ck₉ cp₉ cl₉ cg₉ ca₉ cwd₉ chg₉ cs₉, f_Chart_add (nI k) (nI p) (nI s) (bI (decide (yy = 1))) cn ct ck cp cl cg ca cwd chg cs = some (nI (bn B + 1), ct₉, ck₉, cp₉, cl₉, cg₉, ca₉, cwd₉, chg₉, cs₉) ∧ chX (addB B k s yy p) (updN P (bn B) p) cw chh (nI (bn B + 1)) cwl ct₉ ck₉ cp₉ cl₉ cg₉ ca₉ cwd₉ chg₉ cs₉ := by
  obtain ⟨g1, g2, g3, g4, g5, g6, g7⟩ := bgOk_wh hg
  obtain ⟨e1, e2⟩ := bWH hg
  obtain ⟨c1, c2, c3, c4, c5, c6, c7, c8, c9⟩ := hc
  subst c1; subst c2; subst c3
  have a1 := s_wideOf (n := s) (decide (yy = 1))
  have a2 := s_highOf (n := s) g1 (decide (yy = 1))
  rw [e1] at a1
  rw [e2] at a2
  have fm : f_Chart_form (nI (bn B)) (upd ck (bn B) (nI k)) (upd cl (bn B) (nI s)) (upd ca (bn B) (bI (decide (yy = 1)))) cwd chg cs = some (upd cwd (bn B) (nI (bW k s yy)), upd chg (bn B) (nI (bH k s yy)), vp_updL cs (bn B) (shp (bW k s yy) (bH k s yy))) := by
    unfold f_Chart_form
    simp only [ev_grdN _ hn (show 12 < 2 ^ 31 by decide), cl_nI hn, pk_us, a1, a2, ev_b _ rfl, s_shapeOf (show bH k s yy < 100 by omega)]
  refine ⟨ct ||| jlshl (shp (bW k s yy) (bH k s yy)) (nI p), upd ck (bn B) (nI k), upd cp (bn B) (nI p), upd cl (bn B) (nI s), upd cg (bn B) (nI p), upd ca (bn B) (bI (decide (yy = 1))), upd cwd (bn B) (nI (bW k s yy)), upd chg (bn B) (nI (bH k s yy)), vp_updL cs (bn B) (shp (bW k s yy) (bH k s yy)), ?_, rfl, rfl, rfl, c4, ?_, ?_, ?_, ?_, ?_⟩
  · unfold f_Chart_add
    rw [if_pos (show nI (bn B) < 12 from nI_lt (b := 12) hn (by decide))]
    simp only [ev_grdN _ hn (show 12 < 2 ^ 31 by decide), cl_nI hn, nar_bI]
    rw [ev_b _ fm, un3_ap, ev_b _ (s_fieldsOf (p := p) hn pk_us pk_uLs), ev_bnd, ev_bnd, nI_1]
  · intro f hf
    rw [tb_or, c5 f hf, shp_at hp g4 g6 hpw hf, Bool.eq_iff_iff, Bool.or_eq_true, tkA_t, tkA_t]
    constructor
    · rintro (⟨c, q1, q2⟩ | q)
      · exact ⟨c, by show c < bn B + 1; omega, by rw [add_fb, if_neg (by omega)]; exact q2⟩
      · exact ⟨bn B, by show bn B < bn B + 1; omega, by rw [add_fb, if_pos rfl]; exact q⟩
    · rintro ⟨c, q1, q2⟩
      have q1₉ : c < bn B + 1 := q1
      rw [add_fb] at q2
      by_cases z : c = bn B
      · rw [if_pos z] at q2; exact Or.inr q2
      · rw [if_neg z] at q2; exact Or.inl ⟨c, by omega, q2⟩
  · intro i hi
    have hi₉ : i < bn B + 1 := hi
    rw [add_x.1, add_x.2]
    show _ = nI (updN (bK B) (bn B) k i) ∧ _ = bI (decide (updN (bY B) (bn B) yy i = 1)) ∧ _
    by_cases z : i = bn B
    · rw [z, pk_us, pk_us, pk_us, pk_us, pk_uLs, updN_s, updN_s, if_pos rfl, if_pos rfl]
      exact ⟨rfl, rfl, rfl, rfl, rfl⟩
    · rw [pk_un z, pk_un z, pk_un z, pk_un z, pk_uLn z, updN_n z, updN_n z, if_neg z, if_neg z]
      exact c6 i (by omega)
  · exact fun i hi => by
      have hi₉ : i < bn B + 1 := hi
      by_cases z : i = bn B
      · rw [z, pk_us, updN_s]
      · rw [pk_un z, updN_n z]; exact c7 i (by omega)
  · intro i hi
    have hi₉ : i < bn B + 1 := hi
    show _ = nI (updN (bS B) (bn B) s i)
    by_cases z : i = bn B
    · rw [z, pk_us, updN_s]
    · rw [pk_un z, updN_n z]; exact c8 i (by omega)
  · intro i hi e
    have hi₉ : i < bn B + 1 := hi
    show _ = nI (updN (bG B) (bn B) p i)
    by_cases z : i = bn B
    · rw [z, pk_us, updN_s]
    · rw [pk_un z, updN_n z]
      have e₉ : updN (bK B) (bn B) k i = 5 := e
      rw [updN_n z] at e₉
      exact c9 i (by omega) e₉
end
section
/-! barge: both sides add the same barge. -/
theorem upd_back {f : Nat → Int32} {b : Nat} {x : Int32} : upd (upd f b x) b (f b) = f := by
  funext i
  by_cases e : i = b
  · subst e; rw [pk_us]
  · rw [pk_un e, pk_un e]
theorem len_c (v1 v4 : Int32) : (∃ k s, lenOk k s ∧ v1 = nI k ∧ v4 = nI s ∧ f_BargeBasin_isLengthOf v1 v4 = some 1 ∧ (¬ v1 < 1) ∧ (¬ (5 : Int32) < v1) ∧ f_BargeBasinModel_isLength v1 v4 = some 1) ∨ (f_BargeBasin_isLengthOf v1 v4 = some 0 ∧ (v1 < 1 ∨ (5 : Int32) < v1 ∨ f_BargeBasinModel_isLength v1 v4 = some 0)) := by
  have t0 : (0 : Int32).toInt = 0 := rfl
  have t1 : (1 : Int32).toInt = 1 := by decide
  have t2 : (2 : Int32).toInt = 2 := by decide
  have t3 : (3 : Int32).toInt = 3 := by decide
  have t4 : (4 : Int32).toInt = 4 := by decide
  have t5 : (5 : Int32).toInt = 5 := by decide
  have eqI : ∀ (x y : Int32), x = y ↔ x.toInt = y.toInt := fun x y => ⟨fun e => by rw [e], fun e => Int32.toInt_inj.mp e⟩
  have small : ∀ (x : Int32) (n : Nat), n < 100 → x.toInt = n → x = nI n := by
    intro x n hn e
    rw [eqI, e, nI_toInt (by omega)]
  unfold f_BargeBasin_isLengthOf f_BargeBasinModel_isLength
  simp only [eqI, Int32.lt_iff_toInt_lt, t1, t2, t3, t4, t5]
  by_cases out : v1.toInt < 1 ∨ 5 < v1.toInt
  · right
    refine ⟨?_, by omega⟩
    simp only [if_neg (show ¬ v1.toInt = 1 by omega), if_neg (show ¬ v1.toInt = 2 by omega), if_neg (show ¬ v1.toInt = 3 by omega), if_neg (show ¬ v1.toInt = 4 by omega), if_neg (show ¬ v1.toInt = 5 by omega)]
  · have c : v1.toInt = 1 ∨ v1.toInt = 2 ∨ v1.toInt = 3 ∨ v1.toInt = 4 ∨ v1.toInt = 5 := by omega
    rcases c with c | c | c | c | c
    · simp only [if_pos c]
      by_cases l : v4.toInt < 2
      · rw [if_pos l]; exact Or.inr ⟨rfl, Or.inr (Or.inr rfl)⟩
      · rw [if_neg l]
        by_cases l2 : 4 < v4.toInt
        · rw [if_pos l2]; exact Or.inr ⟨rfl, Or.inr (Or.inr rfl)⟩
        · rw [if_neg l2]
          have : v4.toInt = 2 ∨ v4.toInt = 3 ∨ v4.toInt = 4 := by omega
          rcases this with q | q | q
          · exact Or.inl ⟨1, 2, Or.inl ⟨Or.inl rfl, by decide, by decide⟩, by rw [nI_toInt (by decide)]; exact c, by rw [nI_toInt (by decide)]; exact q, rfl, by omega, by omega, rfl⟩
          · exact Or.inl ⟨1, 3, Or.inl ⟨Or.inl rfl, by decide, by decide⟩, by rw [nI_toInt (by decide)]; exact c, by rw [nI_toInt (by decide)]; exact q, rfl, by omega, by omega, rfl⟩
          · exact Or.inl ⟨1, 4, Or.inl ⟨Or.inl rfl, by decide, by decide⟩, by rw [nI_toInt (by decide)]; exact c, by rw [nI_toInt (by decide)]; exact q, rfl, by omega, by omega, rfl⟩
    · simp only [if_pos c, if_neg (show ¬ v1.toInt = 1 by omega), if_neg (show ¬ v1.toInt = 3 by omega), if_neg (show ¬ v1.toInt = 4 by omega), if_neg (show ¬ v1.toInt = 5 by omega)]
      by_cases l : v4.toInt = 1
      · rw [if_pos l]
        exact Or.inl ⟨2, 1, Or.inr (Or.inr ⟨Or.inl rfl, rfl⟩), by rw [nI_toInt (by decide)]; exact c, by rw [nI_toInt (by decide)]; exact l, rfl, by omega, by omega, rfl⟩
      · rw [if_neg l]; exact Or.inr ⟨rfl, Or.inr (Or.inr rfl)⟩
    · simp only [if_pos c, if_neg (show ¬ v1.toInt = 1 by omega), if_neg (show ¬ v1.toInt = 2 by omega), if_neg (show ¬ v1.toInt = 4 by omega), if_neg (show ¬ v1.toInt = 5 by omega)]
      by_cases l : v4.toInt = 2
      · rw [if_pos l]
        exact Or.inl ⟨3, 2, Or.inr (Or.inl ⟨rfl, rfl⟩), by rw [nI_toInt (by decide)]; exact c, by rw [nI_toInt (by decide)]; exact l, rfl, by omega, by omega, rfl⟩
      · rw [if_neg l]; exact Or.inr ⟨rfl, Or.inr (Or.inr rfl)⟩
    · simp only [if_pos c, if_neg (show ¬ v1.toInt = 1 by omega), if_neg (show ¬ v1.toInt = 2 by omega), if_neg (show ¬ v1.toInt = 3 by omega), if_neg (show ¬ v1.toInt = 5 by omega)]
      by_cases l : v4.toInt = 1
      · rw [if_pos l]
        exact Or.inl ⟨4, 1, Or.inr (Or.inr ⟨Or.inr rfl, rfl⟩), by rw [nI_toInt (by decide)]; exact c, by rw [nI_toInt (by decide)]; exact l, rfl, by omega, by omega, rfl⟩
      · rw [if_neg l]; exact Or.inr ⟨rfl, Or.inr (Or.inr rfl)⟩
    · simp only [if_pos c, if_neg (show ¬ v1.toInt = 1 by omega), if_neg (show ¬ v1.toInt = 2 by omega), if_neg (show ¬ v1.toInt = 3 by omega), if_neg (show ¬ v1.toInt = 4 by omega)]
      by_cases l : v4.toInt < 2
      · rw [if_pos l]; exact Or.inr ⟨rfl, Or.inr (Or.inr rfl)⟩
      · rw [if_neg l]
        by_cases l2 : 4 < v4.toInt
        · rw [if_pos l2]; exact Or.inr ⟨rfl, Or.inr (Or.inr rfl)⟩
        · rw [if_neg l2]
          have : v4.toInt = 2 ∨ v4.toInt = 3 ∨ v4.toInt = 4 := by omega
          rcases this with q | q | q
          · exact Or.inl ⟨5, 2, Or.inl ⟨Or.inr rfl, by decide, by decide⟩, by rw [nI_toInt (by decide)]; exact c, by rw [nI_toInt (by decide)]; exact q, rfl, by omega, by omega, rfl⟩
          · exact Or.inl ⟨5, 3, Or.inl ⟨Or.inr rfl, by decide, by decide⟩, by rw [nI_toInt (by decide)]; exact c, by rw [nI_toInt (by decide)]; exact q, rfl, by omega, by omega, rfl⟩
          · exact Or.inl ⟨5, 4, Or.inl ⟨Or.inr rfl, by decide, by decide⟩, by rw [nI_toInt (by decide)]; exact c, by rw [nI_toInt (by decide)]; exact q, rfl, by omega, by omega, rfl⟩
theorem rfX_add {B : Bas} {P : Nat → Nat} {k s y p : Nat} {khas kw kh kn : Int32} {kwl kk kat ks ky kg : Nat → Int32} (hr : rfX B P khas kw kh kn kwl kk kat ks ky kg) : rfX (addB B k s y p) (updN P (bn B) p) khas kw kh (nI (bn B + 1)) kwl (upd kk (bn B) (nI k)) (upd kat (bn B) (nI p)) (upd ks (bn B) (nI s)) (upd ky (bn B) (nI y)) (upd kg (bn B) (nI p)) := by
  obtain ⟨r1, r2, r3, r4, r5, r6, r7, r8⟩ := hr
  refine ⟨r1, r2, r3, rfl, r5, fun i hi => ?_, fun i hi => ?_, fun i hi e => ?_⟩
  · have hi₉ : i < bn B + 1 := hi
    show _ = nI (updN (bK B) (bn B) k i) ∧ _ = nI (updN (bS B) (bn B) s i) ∧ _ = nI (updN (bY B) (bn B) y i)
    by_cases z : i = bn B
    · rw [z, pk_us, pk_us, pk_us, updN_s, updN_s, updN_s]; exact ⟨rfl, rfl, rfl⟩
    · rw [pk_un z, pk_un z, pk_un z, updN_n z, updN_n z, updN_n z]; exact r6 i (by omega)
  · have hi₉ : i < bn B + 1 := hi
    by_cases z : i = bn B
    · rw [z, pk_us, updN_s]
    · rw [pk_un z, updN_n z]; exact r7 i (by omega)
  · have hi₉ : i < bn B + 1 := hi
    show _ = nI (updN (bG B) (bn B) p i)
    by_cases z : i = bn B
    · rw [z, pk_us, updN_s]
    · rw [pk_un z, updN_n z]
      have e₉ : updN (bK B) (bn B) k i = 5 := e
      rw [updN_n z] at e₉
      exact r8 i (by omega) e₉
theorem eq_barge {B : Bas} {P : Nat → Nat} {cw chh cn : Int32} {cwl ct : Int64} {ck cp cl cg ca cwd chg : Nat → Int32} {cs : Nat → Int64} {khas kw kh kn : Int32} {kwl kk kat ks ky kg : Nat → Int32} {lf ld lu um rm : Int32} {lm ub uf ut rb rf rt : Nat → Int32} (h : basOk B) (hP : stC B P) (hc : chX B P cw chh cn cwl ct ck cp cl cg ca cwd chg cs) (hr : rfX B P khas kw kh kn kwl kk kat ks ky kg) (hl : lgR B P lf ld lu lm um rm ub uf ut rb rf rt) (v1 v2 v3 v4 : Int32) (ac : Bool) (st st2 th : Int32) (kwho khe : Nat → Int32) :
    ∃ (ans st₉ cn₉ : Int32) (ct₉ : Int64) (ck₉ cp₉ cl₉ cg₉ ca₉ cwd₉ chg₉ : Nat → Int32) (cs₉ : Nat → Int64) (ld₉ lu₉ kn₉ um₉ rm₉ : Int32) (kk₉ kat₉ ks₉ ky₉ kg₉ kwho₉ khe₉ : Nat → Int32) (B₉ : Bas) (Q : Nat → Nat), f_BargeBasin_barge v1 v2 v3 v4 (bI ac) st cw chh cn cwl ct ck cp cl cg ca cwd chg cs ld lu = some (ans, st₉, cn₉, ct₉, ck₉, cp₉, cl₉, cg₉, ca₉, cwd₉, chg₉, cs₉, ld₉, lu₉) ∧
      f_BargeBasinModel_barge v1 v2 v3 v4 (bI ac) st2 th khas kw kh kn um rm kwl kk kat ks ky kg kwho khe = some (ans, st₉, 0, kn₉, um₉, rm₉, kk₉, kat₉, ks₉, ky₉, kg₉, kwho₉, khe₉) ∧
      (B₉ = B ∨ ∃ k s y p, B₉ = addB B k s y p ∧ (k = 5 → p % 8 + bW k s y ≤ bw B ∧ p / 8 + bH k s y ≤ bh B)) ∧ basOk B₉ ∧ stC B₉ Q ∧ chX B₉ Q cw chh cn₉ cwl ct₉ ck₉ cp₉ cl₉ cg₉ ca₉ cwd₉ chg₉ cs₉ ∧ rfX B₉ Q khas kw kh kn₉ kwl kk₉ kat₉ ks₉ ky₉ kg₉ ∧ lgR B₉ Q lf ld₉ lu₉ lm um₉ rm₉ ub uf ut rb rf rt := by
  have n12 := h.2.2.2.2.1
  have w8 := h.2.1
  have h8 := h.2.2.2.1
  have hc0 := hc
  have hr0 := hr
  obtain ⟨c1, c2, c3, c4, c5, c6, c7, c8, c9⟩ := hc
  obtain ⟨r1, r2, r3, r4, r5, r6, r7, r8⟩ := hr
  subst c1; subst c2; subst c3; subst r1; subst r2; subst r3; subst r4
  have bad : ∀ (kw₉ kh₉ : Nat → Int32) (X : Option (Int32 × Int32 × Int32 × Int64 × (Nat → Int32) × (Nat → Int32) × (Nat → Int32) × (Nat → Int32) × (Nat → Int32) × (Nat → Int32) × (Nat → Int32) × (Nat → Int64) × Int32 × Int32)) (Y : Option (Int32 × Int32 × Int32 × Int32 × Int32 × Int32 × (Nat → Int32) × (Nat → Int32) × (Nat → Int32) × (Nat → Int32) × (Nat → Int32) × (Nat → Int32) × (Nat → Int32))) (e : Int32), X = some (-1, e, nI (bn B), ct, ck, cp, cl, cg, ca, cwd, chg, cs, ld, lu) → Y = some (-1, e, 0, nI (bn B), um, rm, kk, kat, ks, ky, kg, kw₉, kh₉) →
      ∃ (ans st₉ cn₉ : Int32) (ct₉ : Int64) (ck₉ cp₉ cl₉ cg₉ ca₉ cwd₉ chg₉ : Nat → Int32) (cs₉ : Nat → Int64) (ld₉ lu₉ kn₉ um₉ rm₉ : Int32) (kk₉ kat₉ ks₉ ky₉ kg₉ kwho₉ khe₉ : Nat → Int32) (B₉ : Bas) (Q : Nat → Nat), X = some (ans, st₉, cn₉, ct₉, ck₉, cp₉, cl₉, cg₉, ca₉, cwd₉, chg₉, cs₉, ld₉, lu₉) ∧ Y = some (ans, st₉, 0, kn₉, um₉, rm₉, kk₉, kat₉, ks₉, ky₉, kg₉, kwho₉, khe₉) ∧
      (B₉ = B ∨ ∃ k s y p, B₉ = addB B k s y p ∧ (k = 5 → p % 8 + bW k s y ≤ bw B ∧ p / 8 + bH k s y ≤ bh B)) ∧ basOk B₉ ∧ stC B₉ Q ∧ chX B₉ Q (nI (bw B)) (nI (bh B)) cn₉ cwl ct₉ ck₉ cp₉ cl₉ cg₉ ca₉ cwd₉ chg₉ cs₉ ∧ rfX B₉ Q 1 (nI (bw B)) (nI (bh B)) kn₉ kwl kk₉ kat₉ ks₉ ky₉ kg₉ ∧ lgR B₉ Q lf ld₉ lu₉ lm um₉ rm₉ ub uf ut rb rf rt := by
    intro kw₉ kh₉ X Y e hX hY
    exact ⟨-1, e, nI (bn B), ct, ck, cp, cl, cg, ca, cwd, chg, cs, ld, lu, nI (bn B), um, rm, kk, kat, ks, ky, kg, kw₉, kh₉, B, P, hX, hY, Or.inl rfl, h, hP, hc0, hr0, hl⟩
  rcases len_c v1 v4 with ⟨k, s, lk, ek, es, l1, l2, l3, l4⟩ | ⟨l1, l2⟩
  · rcases fld (v1 := v2) (v2 := v3) h with ⟨x, y, hx, hy, ex, ey, f1, f2⟩ | ⟨-, f1, f2⟩
    · subst ek; subst es; subst ex; subst ey
      have k6 : k < 6 := by unfold lenOk at lk; omega
      have s5 : s < 5 := by unfold lenOk at lk; omega
      -- the way
      obtain ⟨yy, hyy⟩ : ∃ yy, yy = (if ac = true ∧ (k = 1 ∨ k = 5) then 1 else 0) := ⟨_, rfl⟩
      have y2 : yy < 2 := by rw [hyy]; split <;> decide
      have bg : bgOk k s yy := ⟨lk, y2, fun z => by
        rw [hyy] at z
        by_cases c : ac = true ∧ (k = 1 ∨ k = 5)
        · exact c.2
        · rw [if_neg c] at z; cases z⟩
      obtain ⟨g1, g2, g3, g4, g5, g6, g7⟩ := bgOk_wh bg
      have cst : (fun s0 : Int32 => f_BargeBasin_barge_J54 (nI k) (nI x) (nI y) (nI s) s0 st (nI (bw B)) (nI (bh B)) (nI (bn B)) cwl ct ck cp cl cg ca cwd chg cs ld lu) = (fun s0 : Int32 => f_BargeBasin_barge_J54 (nI k) (nI x) (nI y) (nI s) s0 st (nI (bw B)) (nI (bh B)) (nI (bn B)) cwl ct ck cp cl cg ca cwd chg cs ld lu) := rfl
      have CL : f_BargeBasin_barge (nI k) (nI x) (nI y) (nI s) (bI ac) st (nI (bw B)) (nI (bh B)) (nI (bn B)) cwl ct ck cp cl cg ca cwd chg cs ld lu = f_BargeBasin_barge_J54 (nI k) (nI x) (nI y) (nI s) (bI (decide (yy = 1))) st (nI (bw B)) (nI (bh B)) (nI (bn B)) cwl ct ck cp cl cg ca cwd chg cs ld lu := by
        unfold f_BargeBasin_barge f_BargeBasin_barge_J53
        rw [ev_b _ (noBas h), if_pos rfl, ev_b _ l1, if_neg (show ¬ (1 : Int32) = 0 by decide), ev_b _ f1, if_pos rfl, ev_b _ (s_isBound k6)]
        cases ac with
        | false =>
          have : yy = 0 := by rw [hyy]; rw [if_neg (by simp)]
          rw [if_pos (show bI false = 0 by decide), this]; rfl
        | true =>
          rw [if_neg (show ¬ bI true = 0 by decide)]
          by_cases c : k = 1 ∨ k = 5
          · have : yy = 1 := by rw [hyy, if_pos ⟨rfl, c⟩]
            rw [decide_eq_true c, if_neg (show ¬ bI true = 0 by decide), this]; rfl
          · have : yy = 0 := by rw [hyy, if_neg (fun z => c z.2)]
            rw [decide_eq_false c, if_pos (show bI false = 0 by decide), this]; rfl
      obtain ⟨kw1, kh1, e1, o1, p1⟩ := m_layAllB h hP.1.1 r6 r7 kwho khe
      -- the reference with its slot
      have RF : ∀ (b : Nat) (full : Int32), b < 12 → (full = 0 ∨ full = 1) → ∃ r, r < 4 ∧ (r = 0 ↔ fitA B P (bW k s yy) (bH k s yy) x y = true) ∧
          f_BargeBasinModel_barge_J91 (nI k) (nI x) (nI y) (nI s) (bI ac) full (nI b) 0 0 (nI (bw B)) (nI (bh B)) (nI (bn B)) um rm kwl kk kat ks ky kg kw1 kh1 = (if r = 0 ∧ full = 0 then some (nI b, 0, 0, nI (bn B + 1), 0, 0, upd kk b (nI k), upd kat b (nI (x + 8 * y)), upd ks b (nI s), upd ky b (nI yy), upd kg b (nI (x + 8 * y)), kw1, kh1) else some (-1, if r = 0 then 8 else 7, 0, nI (bn B), um, rm, kk, kat, ks, ky, kg, kw1, kh1)) := by
        intro b full b12 hfull
        obtain ⟨r, e2, r4₉, r0⟩ := m_againstAny (b := b) h r5 o1 (m_wide (kk := upd kk b (nI k)) (ks := upd ks b (nI s)) (ky := upd ky b (nI yy)) b12 pk_us pk_us pk_us k6 y2) (m_tall (kk := upd kk b (nI k)) (ks := upd ks b (nI s)) (ky := upd ky b (nI yy)) b12 pk_us pk_us pk_us k6 y2) g4 g6 hx hy
        refine ⟨r, r4₉, r0, ?_⟩
        have J163 : f_BargeBasinModel_barge_J163 (nI x) (nI y) full (nI b) (kk b) (ks b) (ky b) (nI b) (nI yy) 0 0 (nI (bw B)) (nI (bh B)) (nI (bn B)) um rm kwl (upd kk b (nI k)) kat (upd ks b (nI s)) ky kg kw1 kh1 = (if r = 0 ∧ full = 0 then some (nI b, 0, 0, nI (bn B + 1), 0, 0, upd kk b (nI k), upd kat b (nI (x + 8 * y)), upd ks b (nI s), upd ky b (nI yy), upd kg b (nI (x + 8 * y)), kw1, kh1) else some (-1, if r = 0 then 8 else 7, 0, nI (bn B), um, rm, kk, kat, ks, ky, kg, kw1, kh1)) := by
          unfold f_BargeBasinModel_barge_J163 f_BargeBasinModel_barge_J184
          simp only [ev_grdN _ b12 (show 12 < 2 ^ 31 by decide), cl_nI b12]
          rw [ev_b _ e2, i8, nI_add]
          have c0 : (0 < nI r) = (0 < r) := nI_ltE (a := 0) (by decide) (by omega)
          have c1 : (nI r ≤ 0) = (r = 0) := by
            rw [show (0 : Int32) = nI 0 from rfl, nI_leE (by omega) (by decide)]
            exact propext ⟨fun z => by omega, fun z => by omega⟩
          simp only [c0, c1, upd_back, ev_bnd, nI_1, pk_us]
          by_cases z : r = 0
          · rw [if_neg (by omega)]
            rcases hfull with y0 | y1
            · rw [if_pos y0, if_pos ⟨z, y0⟩]; rfl
            · rw [if_neg (by rw [y1]; decide), if_pos z, if_neg (fun q => by rw [y1] at q; exact absurd q.2 (by decide)), if_pos z]; rfl
          · rw [if_pos (by omega), if_neg z, if_neg (fun q => z q.1), if_neg z]; rfl
        unfold f_BargeBasinModel_barge_J91 f_BargeBasinModel_barge_J153 f_BargeBasinModel_barge_J162
        simp only [ev_grdN _ b12 (show 12 < 2 ^ 31 by decide), cl_nI b12, ev_bnd]
        have k1 : (nI k = 1) = (k = 1) := nI_eqL (j := 1) (by omega) (by decide)
        have k5 : (nI k = 5) = (k = 5) := nI_eqL (j := 5) (by omega) (by decide)
        simp only [k1, k5]
        rw [← J163]
        by_cases c1 : k = 1
        · rw [if_pos c1]
          cases ac with
          | false =>
            have : yy = 0 := by rw [hyy]; rw [if_neg (by simp)]
            rw [if_pos (show bI false = 0 by decide), this]; rfl
          | true =>
            have : yy = 1 := by rw [hyy, if_pos ⟨rfl, Or.inl c1⟩]
            rw [if_neg (show ¬ bI true = 0 by decide), this]; rfl
        · rw [if_neg c1]
          by_cases c5 : k = 5
          · rw [if_pos c5]
            cases ac with
            | false =>
              have : yy = 0 := by rw [hyy]; rw [if_neg (by simp)]
              rw [if_pos (show bI false = 0 by decide), this]; rfl
            | true =>
              have : yy = 1 := by rw [hyy, if_pos ⟨rfl, Or.inr c5⟩]
              rw [if_neg (show ¬ bI true = 0 by decide), this]; rfl
          · have : yy = 0 := by rw [hyy, if_neg (fun z => by rcases z.2 with q | q; exact c1 q; exact c5 q)]
            rw [if_neg c5, this]; rfl
      have RB : f_BargeBasinModel_barge (nI k) (nI x) (nI y) (nI s) (bI ac) st2 th 1 (nI (bw B)) (nI (bh B)) (nI (bn B)) um rm kwl kk kat ks ky kg kwho khe = f_BargeBasinModel_barge_J91 (nI k) (nI x) (nI y) (nI s) (bI ac) (if bn B = 12 then 1 else 0) (nI (if bn B = 12 then 11 else bn B)) 0 0 (nI (bw B)) (nI (bh B)) (nI (bn B)) um rm kwl kk kat ks ky kg kw1 kh1 := by
        unfold f_BargeBasinModel_barge f_BargeBasinModel_barge_J75
        rw [if_neg (show ¬ (1 : Int32) = 0 by decide), if_neg l2, if_neg l3, ev_b _ f2, if_neg (show ¬ (1 : Int32) = 0 by decide), ev_b _ l4, if_neg (show ¬ (1 : Int32) = 0 by decide), ev_b _ e1, un2_ap]
        have ce : (nI (bn B) = 12) = (bn B = 12) := nI_eqL (j := 12) (by omega) (by decide)
        simp only [ce]
        by_cases c : bn B = 12
        · rw [if_pos c, if_pos c, if_pos c, if_neg (show ¬ (1 : Int32) = 0 by decide)]; rfl
        · rw [if_neg c, if_neg c, if_neg c, if_pos (show True from trivial)]
      have sf := s_fits (k := k) (s := s) (yy := yy) h c4 c5 bg hx hy
      rw [CL, RB]
      unfold f_BargeBasin_barge_J54
      rw [ev_b _ sf]
      by_cases full : bn B = 12
      · rw [if_pos full, if_pos full]
        obtain ⟨r, r4₉, r0, e3⟩ := RF 11 1 (by decide) (Or.inr rfl)
        rw [e3, if_neg (show ¬ (r = 0 ∧ (1 : Int32) = 0) from fun z => absurd z.2 (by decide))]
        cases ef : fitA B P (bW k s yy) (bH k s yy) x y with
        | false =>
          rw [if_pos (show bI false = 0 by decide), if_neg (show ¬ r = 0 from fun z => by rw [r0.mp z] at ef; cases ef)]
          exact bad kw1 kh1 _ _ 7 rfl rfl
        | true =>
          rw [if_neg (show ¬ bI true = 0 by decide), if_pos (r0.mpr ef), if_neg (show ¬ nI (bn B) < 12 by rw [full]; decide)]
          exact bad kw1 kh1 _ _ 8 rfl rfl
      · have n12₉ : bn B < 12 := by omega
        rw [if_neg full, if_neg full]
        obtain ⟨r, r4₉, r0, e3⟩ := RF (bn B) 0 n12₉ (Or.inl rfl)
        rw [e3]
        cases ef : fitA B P (bW k s yy) (bH k s yy) x y with
        | false =>
          have rn : ¬ r = 0 := fun z => by rw [r0.mp z] at ef; cases ef
          rw [if_pos (show bI false = 0 by decide), if_neg (show ¬ (r = 0 ∧ (0 : Int32) = 0) from fun z => rn z.1), if_neg rn]
          exact bad kw1 kh1 _ _ 7 rfl rfl
        | true =>
          have ef₉ := ef
          unfold fitA at ef₉
          rw [Bool.and_eq_true, decide_eq_true_eq] at ef₉
          have px : (x + 8 * y) % 8 = x := by omega
          have py : (x + 8 * y) / 8 = y := by omega
          obtain ⟨ct₉, ck₉, cp₉, cl₉, cg₉, ca₉, cwd₉, chg₉, cs₉, e4, x4⟩ := s_add (p := x + 8 * y) h hc0 bg n12₉ (by omega) (by rw [px]; have := ef₉.1.1; omega)
          have sQ := add_st h hP bg ef
          have e8 : (8 : Int32) * nI y + nI x = nI (x + 8 * y) := by rw [i8, nI_add, Nat.add_comm]
          rw [if_neg (show ¬ bI true = 0 by decide), if_pos (show r = 0 ∧ (0 : Int32) = 0 from ⟨r0.mpr ef, rfl⟩), if_pos (show nI (bn B) < 12 from nI_lt (b := 12) n12₉ (by decide)), e8, ev_b _ e4, un10_ap]
          refine ⟨nI (bn B), 0, nI (bn B + 1), ct₉, ck₉, cp₉, cl₉, cg₉, ca₉, cwd₉, chg₉, cs₉, 0, 0, nI (bn B + 1), 0, 0, upd kk (bn B) (nI k), upd kat (bn B) (nI (x + 8 * y)), upd ks (bn B) (nI s), upd ky (bn B) (nI yy), upd kg (bn B) (nI (x + 8 * y)), kw1, kh1, addB B k s yy (x + 8 * y), updN P (bn B) (x + 8 * y), ?_, rfl, Or.inr ⟨k, s, yy, x + 8 * y, rfl, fun _ => by rw [px, py]; exact ef₉.1⟩, add_bas h bg n12₉ (by omega), sQ, x4, rfX_add hr0, lgR_forget hl sQ⟩
          show some (nI (bn B + 1) - 1, _) = _
          rw [nI_pred]
    · have CL : f_BargeBasin_barge v1 v2 v3 v4 (bI ac) st (nI (bw B)) (nI (bh B)) (nI (bn B)) cwl ct ck cp cl cg ca cwd chg cs ld lu = some (-1, 2, nI (bn B), ct, ck, cp, cl, cg, ca, cwd, chg, cs, ld, lu) := by
        unfold f_BargeBasin_barge
        rw [ev_b _ (noBas h), if_pos rfl, ev_b _ l1, if_neg (show ¬ (1 : Int32) = 0 by decide), ev_b _ f1, if_neg (show ¬ (1 : Int32) = 0 by decide)]; rfl
      refine bad kwho khe _ _ 2 CL ?_
      unfold f_BargeBasinModel_barge
      rw [if_neg (show ¬ (1 : Int32) = 0 by decide), if_neg l2, if_neg l3, ev_b _ f2, if_pos rfl]; rfl
  · have CL : f_BargeBasin_barge v1 v2 v3 v4 (bI ac) st (nI (bw B)) (nI (bh B)) (nI (bn B)) cwl ct ck cp cl cg ca cwd chg cs ld lu = some (-1, 2, nI (bn B), ct, ck, cp, cl, cg, ca, cwd, chg, cs, ld, lu) := by
      unfold f_BargeBasin_barge
      rw [ev_b _ (noBas h), if_pos rfl, ev_b _ l1, if_pos rfl]; rfl
    refine bad kwho khe _ _ 2 CL ?_
    unfold f_BargeBasinModel_barge
    rw [if_neg (show ¬ (1 : Int32) = 0 by decide)]
    by_cases q1 : v1 < 1
    · rw [if_pos q1]; rfl
    · rw [if_neg q1]
      by_cases q2 : (5 : Int32) < v1
      · rw [if_pos q2]; rfl
      · rw [if_neg q2]
        have l3 : f_BargeBasinModel_isLength v1 v4 = some 0 := by
          rcases l2 with z | z | z
          · exact absurd z q1
          · exact absurd z q2
          · exact z
        rcases fld (v1 := v2) (v2 := v3) h with ⟨x, y, hx, hy, ex, ey, f1, f2⟩ | ⟨-, f1, f2⟩
        · rw [ev_b _ f2, if_neg (show ¬ (1 : Int32) = 0 by decide), ev_b _ l3, if_pos rfl]; rfl
        · rw [ev_b _ f2, if_pos rfl]; rfl
end
