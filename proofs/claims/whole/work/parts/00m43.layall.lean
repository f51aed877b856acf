/-- who lies on f: the last of the first n that does, else -1 -/
def whoOf (fb : Nat → Nat → Bool) : Nat → Nat → Int32
  | 0, _ => -1
  | n + 1, f => if fb n f then nI n else whoOf fb n f
/-- the fields of barge b at places P -/
def fbOf (K S Y P : Nat → Nat) (b f : Nat) : Bool := inB (P b % 8) (P b / 8) (bW (K b) (S b) (Y b)) (bH (K b) (S b) (Y b)) f
/-- n barges that have kinds, ways and lie inside 8 by 8 -/
def okB (n : Nat) (K S Y P : Nat → Nat) : Prop := n ≤ 12 ∧ ∀ b, b < n → K b < 6 ∧ Y b < 2 ∧ P b < 64 ∧ P b % 8 + bW (K b) (S b) (Y b) ≤ 8 ∧ P b / 8 + bH (K b) (S b) (Y b) ≤ 8
theorem m_layAllL {n : Nat} {K S Y P : Nat → Nat} {kk ka ks ky : Nat → Int32} (ok : okB n K S Y P) (hk : ∀ b, b < n → kk b = nI (K b)) (ha : ∀ b, b < n → ka b = nI (P b)) (hs : ∀ b, b < n → ks b = nI (S b)) (hy : ∀ b, b < n → ky b = nI (Y b)) (kw kh : Nat → Int32) :
    ∀ (d i m : Nat), i + d = n → d < m → f_BargeBasinModel_layAll_L6 (nI n) kk ka ks ky m (nI i) (fun f => if f < 64 then whoOf (fbOf K S Y P) i f else kw f) (fun b => if b < i then ka b else kh b) =
      some (fun f => if f < 64 then whoOf (fbOf K S Y P) n f else kw f, fun b => if b < n then ka b else kh b) := by
  intro d
  induction d with
  | zero =>
    intro i m h hm
    obtain ⟨m, rfl⟩ : ∃ q, m = q + 1 := ⟨m - 1, by omega⟩
    have e : i = n := by omega
    subst e
    rw [f_BargeBasinModel_layAll_L6, if_pos (nI_le (Nat.le_refl _) (by have := ok.1; omega))]
  | succ d ih =>
    intro i m h hm
    obtain ⟨m, rfl⟩ : ∃ q, m = q + 1 := ⟨m - 1, by omega⟩
    have hi : i < n := by omega
    have h12 : i < 12 := by have := ok.1; omega
    obtain ⟨o1, o2, o3, o4, o5⟩ := ok.2 i hi
    rw [f_BargeBasinModel_layAll_L6, if_neg (nI_ge hi (by have := ok.1; omega)), ev_grdN _ h12 (by decide), ev_bnd, ev_grdN _ h12 (by decide), ev_grdN _ h12 (by decide), cl_nI h12, ha i hi,
      ev_b _ (m_lay (v := nI i) h12 (hk i hi) (hs i hi) (hy i hi) o1 o2 o4 o5 _), ev_bnd, nI_1]
    have e1 : (fun f => if inB (P i % 8) (P i / 8) (bW (K i) (S i) (Y i)) (bH (K i) (S i) (Y i)) f then nI i else if f < 64 then whoOf (fbOf K S Y P) i f else kw f) = (fun f => if f < 64 then whoOf (fbOf K S Y P) (i + 1) f else kw f) := by
      funext f
      by_cases c : f < 64
      · rw [if_pos c, if_pos c]
        rfl
      · rw [if_neg c, if_neg c, if_neg]
        unfold inB
        simp only [Bool.and_eq_true, decide_eq_true_eq]
        omega
    have e2 : upd (fun b => if b < i then ka b else kh b) i (nI (P i)) = (fun b => if b < i + 1 then ka b else kh b) := by
      funext b
      by_cases c : b = i
      · subst c
        rw [pk_us, if_pos (by omega), ha b hi]
      · rw [pk_un c]
        by_cases c2 : b < i
        · rw [if_pos c2, if_pos (by omega)]
        · rw [if_neg c2, if_neg (by omega)]
    rw [e1, e2]
    exact ih (i + 1) m (by omega) (by omega)
theorem m_layAll {n : Nat} {K S Y P : Nat → Nat} {kk ka ks ky : Nat → Int32} (ok : okB n K S Y P) (hk : ∀ b, b < n → kk b = nI (K b)) (ha : ∀ b, b < n → ka b = nI (P b)) (hs : ∀ b, b < n → ks b = nI (S b)) (hy : ∀ b, b < n → ky b = nI (Y b)) (kw kh : Nat → Int32) :
    f_BargeBasinModel_layAll (nI n) kk ka ks ky kw kh = some (fun f => if f < 64 then whoOf (fbOf K S Y P) n f else kw f, fun b => if b < n then ka b else kh b) := by
  unfold f_BargeBasinModel_layAll
  rw [ev_b _ (m_clearWho kw)]
  have e := m_layAllL ok hk ha hs hy kw kh n 0 jN (by omega) (by have := ok.1; show n < 2000000; omega)
  have e2 : (fun b => if b < 0 then ka b else kh b) = kh := by funext b; rw [if_neg (by omega)]
  rw [e2] at e
  rw [ev_b _ (show f_BargeBasinModel_layAll_L6 (nI n) kk ka ks ky jN 0 (fun f => if f < 64 then -1 else kw f) kh = _ from e)]
  rfl
