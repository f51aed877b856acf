/-! make: one try on both sides. -/
theorem seed_eq (s : Int32) : (((1103515245 : Int64) * s.toInt64 + (12345 : Int64)) &&& (2147483647 : Int64)).toInt32 = ((1103515245 : Int32) * s + (12345 : Int32)) &&& (2147483647 : Int32) := by
  have e : s.toInt64.toInt32 = s := by simp
  rw [Int64.toInt32_and, Int64.toInt32_add, Int64.toInt32_mul, e]
  rfl
theorem seed_n (x : Int32) : ∃ m, m < 2 ^ 31 ∧ (x &&& (2147483647 : Int32)) = nI m := by
  refine ⟨(x &&& (2147483647 : Int32)).toBitVec.toNat, ?_, ?_⟩
  · rw [Int32.toBitVec_and, BitVec.toNat_and]
    have : (2147483647 : Int32).toBitVec.toNat = 2147483647 := by decide
    rw [this]
    exact Nat.lt_of_le_of_lt Nat.and_le_right (by decide)
  · apply Int32.toBitVec_inj.mp
    apply BitVec.eq_of_toNat_eq
    show _ = (BitVec.ofNat 32 _).toNat
    rw [BitVec.toNat_ofNat, Nat.mod_eq_of_lt (x &&& (2147483647 : Int32)).toBitVec.isLt]
theorem shr16 {m : Nat} (h : m < 2 ^ 31) : jishr (nI m) 16 = nI (m / 65536) := by
  unfold jishr
  exact pk_shrN h _ 16 (by decide)
theorem below_eq {n : Nat} (h1 : 1 ≤ n) (h8 : n ≤ 8) (s : Int32) : ∃ r t, r < n ∧ f_Draw_below (nI n) s = some (nI r, t) ∧ f_BargeBasinModel_below (nI n) s = some (nI r, t) := by
  unfold f_Draw_below f_BargeBasinModel_below
  rw [seed_eq]
  obtain ⟨m, hm, e⟩ := seed_n ((1103515245 : Int32) * s + (12345 : Int32))
  rw [e, ev_bnd, ev_bnd, shr16 hm]
  have le : (1 ≤ nI n) = (1 ≤ n) := nI_leE (a := 1) (by decide) (by omega)
  have ne : ¬ nI n = 0 := fun z => by
    have := (nI_eqL (j := 0) (show n < 2 ^ 31 by omega) (by decide)) ▸ (show nI n = nI 0 from z)
    omega
  rw [if_pos (by rw [le]; exact h1), ev_div _ ne, pk_rem (d := n) (show m / 65536 < 2 ^ 31 by omega) (by omega) (by omega)]
  exact ⟨m / 65536 % n, nI m, Nat.mod_lt _ (by omega), rfl, rfl⟩
/-- what is drawn -/
def kdV (v : Nat) : Nat := if v = 3 then 2 else if v = 4 then 3 else 1
def lnV (v r : Nat) : Nat := if v = 3 then 1 else if v = 4 then 2 else r + 2
def wyV (v : Nat) : Nat := if v = 1 ∨ v = 2 then 1 else 0
theorem bgV {v r : Nat} (hr : r < 3) : bgOk (kdV v) (lnV v r) (wyV v) := by
  unfold bgOk lenOk kdV lnV wyV
  by_cases a : v = 3
  · subst a; simp
  · by_cases c : v = 4
    · subst c; simp
    · simp only [a, c, if_false]
      by_cases d : v = 1 ∨ v = 2
      · simp only [d, if_true]; exact ⟨Or.inl ⟨Or.inl trivial, by omega, by omega⟩, by decide, fun _ => Or.inl trivial⟩
      · simp only [d, if_false]; exact ⟨Or.inl ⟨Or.inl trivial, by omega, by omega⟩, by decide, fun _ => Or.inl trivial⟩
theorem one_try {w hh : Nat} (w3 : 3 ≤ w) (w8 : w ≤ 8) (h3 : 3 ≤ hh) (h8 : hh ≤ 8) (sd : Int32) : ∃ k s yy x y sd', bgOk k s yy ∧ x < w ∧ y < hh ∧
    (∀ (cn : Int32) (cwl ct : Int64) (ck cp cl cg ca cwd chg : Nat → Int32) (cs : Nat → Int64), f_Draw_addsTo sd (nI w) (nI hh) cn cwl ct ck cp cl cg ca cwd chg cs = jb (f_Chart_fits (nI k) (nI x) (nI y) (nI s) (bI (decide (yy = 1))) (nI w) (nI hh) cwl ct) (fun r => if r = 0 then some (0, sd', cn, ct, ck, cp, cl, cg, ca, cwd, chg, cs) else jb (f_Chart_add (nI k) (8 * nI y + nI x) (nI s) (bI (decide (yy = 1))) cn ct ck cp cl cg ca cwd chg cs) (un10 (fun a b c d e f g h i j => some (1, sd', a, b, c, d, e, f, g, h, i, j))))) ∧
    (∀ (b t n : Nat) (kwl kwho kk ks ky : Nat → Int32), b < 12 → t < 20 → f_BargeBasinModel_draws_L11 (nI b) (nI w) (nI hh) kwl kwho (n + 1) (nI t) sd kk ks ky = jb (f_BargeBasinModel_againstAny (nI b) (nI x) (nI y) (nI w) (nI hh) kwl (upd kk b (nI k)) (upd ks b (nI s)) (upd ky b (nI yy)) kwho) (fun r => if r ≤ 0 then some (.inl (nI x, nI y, sd', upd kk b (nI k), upd ks b (nI s), upd ky b (nI yy))) else f_BargeBasinModel_draws_L11 (nI b) (nI w) (nI hh) kwl kwho n (nI (t + 1)) sd' (upd kk b (nI k)) (upd ks b (nI s)) (upd ky b (nI yy)))) := by
  obtain ⟨v, s1, hv, a1, b1⟩ := below_eq (n := 6) (by decide) (by decide) sd
  obtain ⟨r, s2, hr, a2, b2⟩ := below_eq (n := 3) (by decide) (by decide) s1
  obtain ⟨x, s3, hx, a3, b3⟩ := below_eq (n := w) (by omega) w8 (if v = 3 ∨ v = 4 then s1 else s2)
  obtain ⟨y, s4, hy, a4, b4⟩ := below_eq (n := hh) (by omega) h8 s3
  have a1' : f_Draw_below 6 sd = some (nI v, s1) := a1
  have b1' : f_BargeBasinModel_below 6 sd = some (nI v, s1) := b1
  have a2' : f_Draw_below 3 s1 = some (nI r, s2) := a2
  have b2' : f_BargeBasinModel_below 3 s1 = some (nI r, s2) := b2
  have e1 : (nI v = 1) = (v = 1) := nI_eqL (j := 1) (by omega) (by decide)
  have e2 : (nI v = 2) = (v = 2) := nI_eqL (j := 2) (by omega) (by decide)
  have e3 : (nI v = 3) = (v = 3) := nI_eqL (j := 3) (by omega) (by decide)
  have e4 : (nI v = 4) = (v = 4) := nI_eqL (j := 4) (by omega) (by decide)
  have r2 : nI r + 2 = nI (r + 2) := nI_add r 2
  have r2' : 2 + nI r = nI (r + 2) := by rw [Int32.add_comm]; exact r2
  refine ⟨kdV v, lnV v r, wyV v, x, y, s4, bgV hr, hx, hy, ?_, ?_⟩
  · intro cn cwl ct ck cp cl cg ca cwd chg cs
    unfold f_Draw_addsTo f_Draw_addsTo_J26 f_Draw_addsTo_J52 f_Draw_addsTo_J64 f_Draw_addsTo_J69 kdV lnV wyV
    rw [ev_b _ a1', un2_ap]
    simp only [e1, e2, e3, e4]
    by_cases q3 : v = 3
    · subst q3
      rw [if_pos (Or.inl rfl)] at a3
      simp only [if_true, if_false, show ¬ (3 : Nat) = 1 by decide, show ¬ (3 : Nat) = 2 by decide, or_self, show ¬ (2 : Int32) = 1 by decide, show ¬ (2 : Int32) = 3 by decide]
      rw [ev_b _ a3, un2_ap, ev_b _ a4, un2_ap]
      rfl
    · by_cases q4 : v = 4
      · subst q4
        rw [if_pos (Or.inr rfl)] at a3
        simp only [if_true, if_false, show ¬ (4 : Nat) = 1 by decide, show ¬ (4 : Nat) = 2 by decide, show ¬ (4 : Nat) = 3 by decide, or_self, show ¬ (3 : Int32) = 1 by decide]
        rw [ev_b _ a3, un2_ap, ev_b _ a4, un2_ap]
        rfl
      · rw [if_neg (by omega)] at a3
        by_cases q1 : v = 1
        · subst q1
          simp only [if_true, if_false, q3, q4, true_or]
          rw [ev_b _ a2', un2_ap, r2, ev_b _ a3, un2_ap, ev_b _ a4, un2_ap]
          rfl
        · by_cases q2 : v = 2
          · subst q2
            simp only [if_true, if_false, q3, q4, q1, or_true]
            rw [ev_b _ a2', un2_ap, r2, ev_b _ a3, un2_ap, ev_b _ a4, un2_ap]
            rfl
          · simp only [if_true, if_false, q3, q4, q1, q2, or_self]
            rw [ev_b _ a2', un2_ap, r2, ev_b _ a3, un2_ap, ev_b _ a4, un2_ap]
            rfl
  · intro b t n kwl kwho kk ks ky hb ht
    rw [f_BargeBasinModel_draws_L11, if_neg (show ¬ (20 : Int32) ≤ nI t from nI_ge (b := 20) ht (by decide))]
    unfold f_BargeBasinModel_draws_J48 f_BargeBasinModel_draws_J64 f_BargeBasinModel_draws_J69 f_BargeBasinModel_draws_J100 kdV lnV wyV
    rw [ev_b _ b1', un2_ap]
    simp only [ev_grdN _ hb (show 12 < 2 ^ 31 by decide), cl_nI hb, e1, e2, e3, e4, ev_bnd, nI_1]
    by_cases q3 : v = 3
    · subst q3
      rw [if_pos (Or.inl rfl)] at b3
      simp only [if_true, if_false, show ¬ (3 : Nat) = 1 by decide, show ¬ (3 : Nat) = 2 by decide, or_self]
      rw [ev_b _ b3, un2_ap, ev_b _ b4, un2_ap]
      rfl
    · by_cases q4 : v = 4
      · subst q4
        rw [if_pos (Or.inr rfl)] at b3
        simp only [if_true, if_false, show ¬ (4 : Nat) = 1 by decide, show ¬ (4 : Nat) = 2 by decide, show ¬ (4 : Nat) = 3 by decide, or_self]
        rw [ev_b _ b3, un2_ap, ev_b _ b4, un2_ap]
        rfl
      · rw [if_neg (by omega)] at b3
        by_cases q1 : v = 1
        · subst q1
          simp only [if_true, if_false, q3, q4, true_or]
          rw [ev_b _ b2', un2_ap, ev_b _ b3, un2_ap, ev_b _ b4, un2_ap, r2']
          rfl
        · by_cases q2 : v = 2
          · subst q2
            simp only [if_true, if_false, q3, q4, q1, or_true]
            rw [ev_b _ b2', un2_ap, ev_b _ b3, un2_ap, ev_b _ b4, un2_ap, r2']
            rfl
          · simp only [if_true, if_false, q3, q4, q1, q2, or_self]
            rw [ev_b _ b2', un2_ap, ev_b _ b3, un2_ap, ev_b _ b4, un2_ap, r2']
            rfl
