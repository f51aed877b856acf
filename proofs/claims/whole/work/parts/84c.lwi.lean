/-! THE LAW's INVARIANT with its cells (printed by wip/law/st.py) -/
def lwR (oa : Nat) (cT : Nat → ClassId) (ov : qJ) (S Pl K0 K1 K2 K3 : va_W) : va_W := (oa, .inl (cT 1, 1, .inr (.inl ov))) :: (S ++ (Pl ++ (K0 ++ (K1 ++ (K2 ++ K3)))))
def srI (cT : Nat → ClassId) (S : va_W) (zs : Value) : Prop := (zs = .null ∧ S = []) ∨ ∃ (sa : Nat → Nat) (sv : qS) (bd : qC), zs = .ref (sa 0) ∧ S = wS sa cT sv bd ∧ schI sv.1 sv.2.2.2.2.2.1 sv.2.2.2.2.2.2.1
def plI (cT : Nat → ClassId) (Pl : va_W) (zp : Value) (mp : q_mp) : Prop := (zp = .null ∧ Pl = [] ∧ mp.1 = 0) ∨ ∃ (pa : Nat → Nat) (pv : qP) (l : List Nat), zp = .ref (pa 0) ∧ Pl = wP pa cT pv ∧ plS l pv mp
def kpI (cT : Nat → ClassId) (k : Nat) (q : Option Nat) (K : va_W) (mk : q_mk) : Prop := (q = none ∧ K = [] ∧ mk.1 k = 0) ∨ ∃ (ka : Nat → Nat) (kc : qC) (X : BP), q = some (ka 0) ∧ K = wK ka cT kc ∧ kpS X k kc mk
theorem sr_len {cT : Nat → ClassId} {S : va_W} {zs : Value} (h : srI cT S zs) : S.length ≤ 18 := by
  rcases h with ⟨-, rfl⟩ | ⟨sa, sv, bd, -, rfl, -⟩
  · exact Nat.zero_le _
  · exact Nat.le_of_ble_eq_true rfl
theorem pl_len {cT : Nat → ClassId} {S : va_W} {zp : Value} {mp : q_mp} (h : plI cT S zp mp) : S.length ≤ 2 := by
  rcases h with ⟨-, rfl, -⟩ | ⟨pa, pv, l, -, rfl, -⟩
  · exact Nat.zero_le _
  · exact Nat.le_of_ble_eq_true rfl
theorem kp_len {cT : Nat → ClassId} {k : Nat} {q : Option Nat} {S : va_W} {mk : q_mk} (h : kpI cT k q S mk) : S.length ≤ 9 := by
  rcases h with ⟨-, rfl, -⟩ | ⟨ka, kc, X, -, rfl, -⟩
  · exact Nat.zero_le _
  · exact Nat.le_of_ble_eq_true rfl
theorem kp_other {cT : Nat → ClassId} {j k : Nat} {q q₉ : Option Nat} {K : va_W} {mk mk₉ : q_mk} (hj : j ≠ k) (hF : kpF k mk mk₉) (hq : q₉ = q) (h : kpI cT j q K mk) : kpI cT j q₉ K mk₉ := by
  subst hq
  rcases h with ⟨h1, h2, h3⟩ | ⟨ka, kc, X, h1, h2, h3, h4, h5⟩
  · exact Or.inl ⟨h1, h2, by rw [hF.1 j hj]; exact h3⟩
  · exact Or.inr ⟨ka, kc, X, h1, h2, h3, h4, hF.2 X j h3.1.2.2.2.2.1 hj h5⟩
theorem vu_at {f : qQ} {k : Nat} {v : Option Nat} (hk : k < 4) : va_up f (nI k).toNatClampNeg v k = v := by
  rw [nI_clamp (show k < 2 ^ 31 by omega)]; exact jva_up
theorem vu_ne {f : qQ} {k j : Nat} {v : Option Nat} (hk : k < 4) (hj : j ≠ k) : va_up f (nI k).toNatClampNeg v j = f j := by
  rw [nI_clamp (show k < 2 ^ 31 by omega)]; simp [va_up, hj]
/-- the state between two calls: class, reference, the law's own row, search, plan, shelves; room used so far by j calls -/
def lwI (D : va_G) (cT : Nat → ClassId) (A : Nat → Prop) (xa ma : Nat → Nat) (oa : Nat) (H : Heap) (nC nS j : Nat) : Prop :=
  ∃ (zs zp : Value) (o : qO) (ln : qL) (c : qC) (tr : qC) (g : qG) (sh : qQ) (sw : qF) (mi : q_mi) (mw : q_mw) (mp : q_mp) (ml : q_ml) (mb : q_mb) (mu : q_mu) (ms : q_ms) (mk : q_mk) (mo : q_mo) (mt : q_mt) (ov : qJ) (S Pl K0 K1 K2 K3 : va_W), va_P D vwCl (wX xa zs zp cT o ln c tr g sh sw ++ (wM ma cT mi mw mp ml mb mu ms mk mo mt ++ lwR oa cT ov S Pl K0 K1 K2 K3)) H ∧ va_D A (wX xa zs zp cT o ln c tr g sh sw ++ (wM ma cT mi mw mp ml mb mu ms mk mo mt ++ lwR oa cT ov S Pl K0 K1 K2 K3)) ∧ lwB o ln c g sw mi mw ml mb mu mo ∧ srI cT S zs ∧ plI cT Pl zp mp ∧ kpI cT 0 (sh 0) K0 mk ∧ kpI cT 1 (sh 1) K1 mk ∧ kpI cT 2 (sh 2) K2 mk ∧ kpI cT 3 (sh 3) K3 mk ∧
    nC ≤ 90 + S.length + Pl.length + K0.length + K1.length + K2.length + K3.length + j ∧ nS ≤ 2200000 + 3000 * S.length + 3001 * Pl.length + 13 * (K0.length + K1.length + K2.length + K3.length) + 10 * j
theorem lw_t {x m q s r : va_W} : (x ++ (m ++ (q ++ (s ++ r)))).Perm ((x ++ s) ++ (m ++ (q ++ r))) := by
  rw [List.append_assoc]
  exact List.Perm.append_left x (((List.perm_append_comm_assoc q s r).append_left m).trans (List.perm_append_comm_assoc m s (q ++ r)))
section LWP
variable {x m S Pl K0 K1 K2 K3 : va_W} {oa : Nat} {cT : Nat → ClassId} {ov : qJ}
theorem lw_pS : (x ++ (m ++ lwR oa cT ov S Pl K0 K1 K2 K3)).Perm ((x ++ S) ++ (m ++ lwR oa cT ov [] Pl K0 K1 K2 K3)) := lw_t (q := [_])
theorem lw_pP : (x ++ (m ++ lwR oa cT ov S Pl K0 K1 K2 K3)).Perm ((x ++ Pl) ++ (m ++ lwR oa cT ov S [] K0 K1 K2 K3)) := lw_t (q := _ :: S)
theorem lw_pSP : (x ++ (m ++ lwR oa cT ov S Pl K0 K1 K2 K3)).Perm ((x ++ (S ++ Pl)) ++ (m ++ lwR oa cT ov [] [] K0 K1 K2 K3)) := by
  have h := lw_t (x := x) (m := m) (q := [(oa, (Sum.inl (cT 1, 1, .inr (.inl ov)) : va_E))]) (s := S ++ Pl) (r := K0 ++ (K1 ++ (K2 ++ K3)))
  rw [List.append_assoc S Pl] at h
  exact h
theorem lw_pK0 : (x ++ (m ++ lwR oa cT ov S Pl K0 K1 K2 K3)).Perm ((x ++ K0) ++ (m ++ lwR oa cT ov S Pl [] K1 K2 K3)) := by
  have h := lw_t (x := x) (m := m) (q := (oa, (Sum.inl (cT 1, 1, .inr (.inl ov)) : va_E)) :: (S ++ (Pl))) (s := K0) (r := K1 ++ (K2 ++ (K3)))
  simp only [List.cons_append, List.append_assoc, List.append_nil] at h
  simpa only [lwR, List.cons_append, List.append_assoc, List.append_nil, List.nil_append] using h
theorem lw_pK1 : (x ++ (m ++ lwR oa cT ov S Pl K0 K1 K2 K3)).Perm ((x ++ K1) ++ (m ++ lwR oa cT ov S Pl K0 [] K2 K3)) := by
  have h := lw_t (x := x) (m := m) (q := (oa, (Sum.inl (cT 1, 1, .inr (.inl ov)) : va_E)) :: (S ++ (Pl ++ (K0)))) (s := K1) (r := K2 ++ (K3))
  simp only [List.cons_append, List.append_assoc, List.append_nil] at h
  simpa only [lwR, List.cons_append, List.append_assoc, List.append_nil, List.nil_append] using h
theorem lw_pK2 : (x ++ (m ++ lwR oa cT ov S Pl K0 K1 K2 K3)).Perm ((x ++ K2) ++ (m ++ lwR oa cT ov S Pl K0 K1 [] K3)) := by
  have h := lw_t (x := x) (m := m) (q := (oa, (Sum.inl (cT 1, 1, .inr (.inl ov)) : va_E)) :: (S ++ (Pl ++ (K0 ++ (K1))))) (s := K2) (r := K3)
  simp only [List.cons_append, List.append_assoc, List.append_nil] at h
  simpa only [lwR, List.cons_append, List.append_assoc, List.append_nil, List.nil_append] using h
theorem lw_pK3 : (x ++ (m ++ lwR oa cT ov S Pl K0 K1 K2 K3)).Perm ((x ++ K3) ++ (m ++ lwR oa cT ov S Pl K0 K1 K2 [])) := by
  have h := lw_t (x := x) (m := m) (q := (oa, (Sum.inl (cT 1, 1, .inr (.inl ov)) : va_E)) :: (S ++ (Pl ++ (K0 ++ (K1 ++ (K2)))))) (s := K3) (r := [])
  simp only [List.cons_append, List.append_assoc, List.append_nil] at h
  simpa only [lwR, List.cons_append, List.append_assoc, List.append_nil, List.nil_append] using h
end LWP
