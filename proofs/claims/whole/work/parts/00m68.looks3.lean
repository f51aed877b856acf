theorem m_heads {v1 : Int32} : ∀ (r i n : Nat) (k : Nat → Int32), i + r = 16384 → r < n → (∀ s, s < i → k s = -1) → ∃ k', f_BargeBasinModel_looksAtAll_L2 v1 n (nI i) k = some k' ∧ ∀ s, s < 16384 → k' s = -1 := by
  intro r
  induction r with
  | zero =>
    intro i n k h1 h2 h3
    obtain ⟨n, rfl⟩ : ∃ z, n = z + 1 := ⟨n - 1, by omega⟩
    exact ⟨k, by rw [f_BargeBasinModel_looksAtAll_L2, if_pos (show (16384 : Int32) ≤ nI i from nI_le (a := 16384) (by omega) (by omega))], fun s hs => h3 s (by omega)⟩
  | succ r ih =>
    intro i n k h1 h2 h3
    obtain ⟨n, rfl⟩ : ∃ z, n = z + 1 := ⟨n - 1, by omega⟩
    rw [f_BargeBasinModel_looksAtAll_L2, if_neg (show ¬ (16384 : Int32) ≤ nI i from nI_ge (b := 16384) (by omega) (by decide)), ev_grdN _ (show i < 16384 by omega) (by decide), ev_bnd, nI_1, nI_clamp (by omega)]
    refine ih (i + 1) n _ (by omega) (by omega) (fun s hs => ?_)
    by_cases e : s = i
    · subst e; exact pk_us
    · rw [pk_un e]; exact h3 s (by omega)
/-- all that the reference's search comes to -/
noncomputable def FL (B : Bas) (most : Nat) (P : Nat → Nat) : List (Nat → Nat) := Lk (sucB B most) P 6001
def lkOut (B : Bas) (most : Nat) (P : Nat → Nat) (st ed : Int32) (kpl khd kch kdp kpr kbb kby kbs kfe ked keb : Nat → Int32) : Prop :=
  (FL B most P).length ≤ 6000 ∧ st = nI (FL B most P).length ∧ xS B (FL B most P) (prA B most (FL B most P) (FL B most P).length) kpl khd kch kdp kpr kbb kby kbs ked keb ∧ ∀ s, s ≤ (FL B most P).length → kfe s = nI (prA B most (FL B most P) s).length
theorem m_looksAtAll {B : Bas} {sg : Bool} {most : Nat} {P : Nat → Nat} {kwl kk kat ks ky : Nat → Int32} (h : basOk B) (hP : stC B P) (hr : rfB B kk ks ky) (hwl : rfW B kwl) (hp : chP B P kat) (hmost : most = if sg then 1 else 7) (st0 ed0 : Int32) (kpl khd kch kdp kpr kbb kby kbs kfe ked keb kwho kh : Nat → Int32) :
    ∃ (well : Bool) (st ed : Int32) (kpl' khd' kch' kdp' kpr' kbb' kby' kbs' kfe' ked' keb' kwho' kh' : Nat → Int32), f_BargeBasinModel_looksAtAll (bI sg) (nI (bw B)) (nI (bh B)) (nI (bn B)) st0 ed0 kwl kk kat ks ky kpl khd kch kdp kpr kbb kby kbs kfe ked keb kwho kh = some (bI well, st, ed, kpl', khd', kch', kdp', kpr', kbb', kby', kbs', kfe', ked', keb', kwho', kh') ∧
      (well = true → lkOut B most P st ed kpl' khd' kch' kdp' kpr' kbb' kby' kbs' kfe' ked' keb') ∧ (well = false → 6000 < (FL B most P).length) := by
  have hm : most ≤ 7 := by rw [hmost]; split <;> decide
  obtain ⟨khd1, e1, z1⟩ := m_heads (v1 := bI sg) 16384 0 jN khd (by omega) (by decide) (fun s hs => by omega)
  obtain ⟨kw1, kh1, e2, o1, p1⟩ := m_layAllB h hP.1.1 hr hp kwho kh
  have t0 : rTab B [] kpl khd1 kch := ⟨fun Q hQ => by (cases hQ), fun i hi => by (cases hi), fun s hs => z1 s hs, fun i hi => by (cases hi)⟩
  rcases m_numberOf h t0 (by simp) p1 hP with ⟨i, hi, -, -⟩ | ⟨-, kpl1, khd2, kch1, e3, t1⟩
  · cases hi
  · rw [List.nil_append] at e3 t1
    have x0 : rX [P] [] (upd kdp 0 0) (upd kpr 0 (-1)) kbb kby kbs ked keb := by
      refine ⟨fun p hp => by (cases hp), fun k hk => by (cases hk), fun _ => 0, fun _ => 0, fun _ => 0, rfl, ?_, ?_⟩
      · intro i hi
        have : i = 0 := by simpa using hi
        subst this
        exact ⟨pk_us, Nat.le_refl _⟩
      · intro i h0 hi
        have : i = 0 := by simpa using hi
        omega
    obtain ⟨x, x1, x2⟩ := m_lkL68 (most := most) (P0 := P) h hr hwl hm 6000 0 jN kpl1 khd2 kch1 (upd kdp 0 0) (upd kpr 0 (-1)) kbb kby kbs kfe ked keb kw1 kh1 (by omega) (by decide) (by simp [Lk]) (Nat.zero_le _) ⟨t1, by simpa [prA, Lk] using x0⟩ (fun s hs => by omega)
    rw [show prA B most (Lk (sucB B most) P 0) 0 = [] by simp [prA], nI_0, List.length_nil, nI_0, show Lk (sucB B most) P 0 = [P] from rfl] at x1
    have J : ∃ (well : Bool) (st ed : Int32) (kpl' khd' kch' kdp' kpr' kbb' kby' kbs' kfe' ked' keb' kwho' kh' : Nat → Int32), f_BargeBasinModel_looksAtAll_J65 (nI most) (nI (bw B)) (nI (bh B)) (nI (bn B)) (nI [P].length) 0 kwl kk ks ky kpl1 khd2 kch1 (upd kdp 0 0) (upd kpr 0 (-1)) kbb kby kbs kfe ked keb kw1 kh1 = some (bI well, st, ed, kpl', khd', kch', kdp', kpr', kbb', kby', kbs', kfe', ked', keb', kwho', kh') ∧
      (well = true → lkOut B most P st ed kpl' khd' kch' kdp' kpr' kbb' kby' kbs' kfe' ked' keb') ∧ (well = false → 6000 < (FL B most P).length) := by
      unfold f_BargeBasinModel_looksAtAll_J65
      rw [ev_b _ x1]
      rcases x2 with ⟨a1, a2, a3, a4, a5, a6, a7, a8, a9, a10, a11, a12, a13, ex, q1, q2, q3⟩ | ⟨⟨y, ey⟩, q⟩
      · rw [ex, jsel_r, un15_ap, ev_grdN _ (show (Lk (sucB B most) P 6001).length < 6002 by omega) (by decide), nI_clamp (show (Lk (sucB B most) P 6001).length < 2 ^ 31 by omega)]
        refine ⟨true, _, _, a1, a2, a3, a4, a5, a6, a7, a8, _, a10, a11, a12, a13, rfl, fun _ => ⟨q1, rfl, q2, fun s hs => ?_⟩, fun z => by (cases z)⟩
        unfold FL at *
        by_cases e : s = (Lk (sucB B most) P 6001).length
        · rw [e, pk_us]
        · rw [pk_un e]; exact q3 s (by omega)
      · rw [ey, jsel_l]
        exact ⟨false, _, _, _, _, _, _, _, _, _, _, _, _, _, _, _, rfl, fun z => by (cases z), fun _ => q⟩
    obtain ⟨well, st, ed, b1, b2, b3, b4, b5, b6, b7, b8, b9, b10, b11, b12, b13, f1, f2, f3⟩ := J
    refine ⟨well, st, ed, b1, b2, b3, b4, b5, b6, b7, b8, b9, b10, b11, b12, b13, ?_, f2, f3⟩
    rw [nI_0] at e1
    rw [List.length_nil, nI_0] at e3
    unfold f_BargeBasinModel_looksAtAll
    rw [ev_b _ e1, ev_b _ e2, un2_ap, ev_b _ e3, un5_ap, ev_grd _ (show vp_in 0 6001 from vp_in_nI (n := 0) (by decide) (by decide)), ev_grd _ (show vp_in 0 6001 from vp_in_nI (n := 0) (by decide) (by decide))]
    cases sg with
    | true => rw [if_neg (show ¬ bI true = 0 by decide)]; rw [hmost] at f1; exact f1
    | false => rw [if_pos (show bI false = 0 by decide)]; rw [hmost] at f1; exact f1
