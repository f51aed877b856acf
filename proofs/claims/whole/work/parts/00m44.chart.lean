/-! The class's chart: the fields of a barge; whether it is away from its gate. -/
theorem s_fieldsOf {b p w h : Nat} {kp : Nat → Int32} {ks : Nat → Int64} (hb : b < 12) (hp : kp b = nI p) (hs : ks b = shp w h) : f_Chart_fieldsOf (nI b) kp ks = some (jlshl (shp w h) (nI p)) := by
  unfold f_Chart_fieldsOf
  rw [ev_grdN _ hb (by decide), ev_grdN _ hb (by decide), cl_nI hb, hp, hs]
theorem s_isAway {b k p g : Nat} {kk kp kg : Nat → Int32} (hb : b < 12) (hk : kk b = nI k) (hp : kp b = nI p) (hg : kg b = nI g) (h6 : k < 6) (hp6 : p < 64) (hg6 : g < 64) : f_Chart_isAway (nI b) kk kp kg = some (bI (decide (k = 5 ∧ p ≠ g))) := by
  unfold f_Chart_isAway
  rw [ev_grdN _ hb (by decide), ev_grdN _ hb (by decide), ev_grdN _ hb (by decide), cl_nI hb, hk, hp, hg]
  have c1 : (nI k = 5) = (k = 5) := nI_eqL (j := 5) (by omega) (by decide)
  have c2 : (nI p = nI g) = (p = g) := nI_eqL (by omega) (by omega)
  simp only [c1, c2]
  by_cases a : k = 5
  · by_cases c : p = g
    · simp [a, c, bI]
    · simp [a, c, bI]
  · simp [a, bI]
