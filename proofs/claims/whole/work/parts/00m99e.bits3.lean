/-! The last three adds. -/
theorem dv256 {r Y c : Nat} (hr : r < 256) (hc : c = r + 256 * Y) : c / 256 = Y ∧ c % 256 = r := by omega
theorem ca2 {a b X Y c d : Nat} (hc : c = a + 256 * X) (hd : d = b + 256 * Y) : c + d = (a + b) + 256 * (X + Y) := by omega
theorem cdd {c k : Nat} : c / 256 / 256 = c / 65536 ∧ c / 65536 / 65536 = c / 4294967296 := by
  rw [Nat.div_div_eq_div_mul, Nat.div_div_eq_div_mul]
  exact ⟨rfl, rfl⟩
theorem mod128 {s t : Nat} (h : s < 128) : (s + 256 * t) % 128 = s := by omega
theorem bxs {c X : Nat} {a : Nat} {n : Nat} (ha : a ≤ 8) (hX : X ≤ n) (hc : c = a + 256 * X) : c ≤ 8 + 256 * n := by omega
theorem bc_end {c d e f c0 c1 c2 c3 c4 c5 c6 X1 X2 X3 X4 X5 X6 X7 : Nat} (h0 : c0 ≤ 8) (h1 : c1 ≤ 8) (h2 : c2 ≤ 8) (h3 : c3 ≤ 8) (h4 : c4 ≤ 8) (h5 : c5 ≤ 8) (h6 : c6 ≤ 8) (h7 : X7 ≤ 8)
    (q0 : c = c0 + 256 * X1) (q1 : X1 = c1 + 256 * X2) (q2 : X2 = c2 + 256 * X3) (q3 : X3 = c3 + 256 * X4) (q4 : X4 = c4 + 256 * X5) (q5 : X5 = c5 + 256 * X6) (q6 : X6 = c6 + 256 * X7) (hd : d = c + c / 256) (he : e = d + d / 65536) (hf : f = e + e / 4294967296) : d < 2 ^ 64 ∧ e < 2 ^ 64 ∧ f < 2 ^ 64 ∧ f % 128 = c0 + c1 + c2 + c3 + c4 + c5 + c6 + X7 := by
  have b6 := bxs h6 h7 q6
  have b5 := bxs h5 b6 q5
  have b4 := bxs h4 b5 q4
  have b3 := bxs h3 b4 q3
  have b2 := bxs h2 b3 q2
  have b1 := bxs h1 b2 q1
  have b0 := bxs h0 b1 q0
  have z1 : c / 256 ≤ c := Nat.div_le_self _ _
  have z2 : d / 65536 ≤ d := Nat.div_le_self _ _
  have z3 : e / 4294967296 ≤ e := Nat.div_le_self _ _
  have cb : c ≤ 700000000000000000 := Nat.le_trans b0 (by decide)
  have db : d ≤ 1400000000000000000 := by clear b0 b1 b2 b3 b4 b5 b6 q0 q1 q2 q3 q4 q5 q6 he hf z2 z3; omega
  have eb : e ≤ 2800000000000000000 := by clear b0 b1 b2 b3 b4 b5 b6 q0 q1 q2 q3 q4 q5 q6 hd hf z1 z3; omega
  have fb : f ≤ 5600000000000000000 := by clear b0 b1 b2 b3 b4 b5 b6 q0 q1 q2 q3 q4 q5 q6 hd he z1 z2; omega
  refine ⟨Nat.lt_of_le_of_lt db (by decide), Nat.lt_of_le_of_lt eb (by decide), Nat.lt_of_le_of_lt fb (by decide), ?_⟩
  clear b0 b1 b2 b3 b4 b5 b6 cb db eb fb z1 z2 z3
  have x0 : c / 256 = X1 := (dv256 (by clear q0 q1 q2 q3 q4 q5 q6 hd he hf; omega) q0).1
  have y0 : d = (c0 + c1) + 256 * (X1 + X2) := by rw [hd, x0]; exact ca2 q0 q1
  have y1 : X1 + X2 = (c1 + c2) + 256 * (X2 + X3) := ca2 q1 q2
  have y2 : X2 + X3 = (c2 + c3) + 256 * (X3 + X4) := ca2 q2 q3
  have y3 : X3 + X4 = (c3 + c4) + 256 * (X4 + X5) := ca2 q3 q4
  have y4 : X4 + X5 = (c4 + c5) + 256 * (X5 + X6) := ca2 q4 q5
  have y5 : X5 + X6 = (c5 + c6) + 256 * (X6 + X7) := ca2 q5 q6
  have y6 : X6 + X7 = (c6 + X7) + 256 * (X7 + 0) := ca2 q6 (show X7 = X7 + 256 * 0 from rfl)
  have w0 : d / 65536 = X2 + X3 := by
    rw [← (cdd (k := 0)).1, (dv256 (by clear q0 q1 q2 q3 q4 q5 q6 hd he hf x0 y0 y1 y2 y3 y4 y5 y6; omega) y0).1, (dv256 (by clear q0 q1 q2 q3 q4 q5 q6 hd he hf x0 y0 y1 y2 y3 y4 y5 y6; omega) y1).1]
  have u0 : e = (c0 + c1 + (c2 + c3)) + 256 * (X1 + X2 + (X3 + X4)) := by rw [he, w0]; exact ca2 y0 y2
  have u1 : X1 + X2 + (X3 + X4) = (c1 + c2 + (c3 + c4)) + 256 * (X2 + X3 + (X4 + X5)) := ca2 y1 y3
  have u2 : X2 + X3 + (X4 + X5) = (c2 + c3 + (c4 + c5)) + 256 * (X3 + X4 + (X5 + X6)) := ca2 y2 y4
  have u3 : X3 + X4 + (X5 + X6) = (c3 + c4 + (c5 + c6)) + 256 * (X4 + X5 + (X6 + X7)) := ca2 y3 y5
  have u4 : X4 + X5 + (X6 + X7) = (c4 + c5 + (c6 + X7)) + 256 * (X5 + X6 + (X7 + 0)) := ca2 y4 y6
  clear q0 q1 q2 q3 q4 q5 q6 hd he x0 y0 y1 y2 y3 y4 y5 y6 w0
  have v0 : e / 4294967296 = X4 + X5 + (X6 + X7) := by
    rw [← (cdd (k := 0)).2, ← (cdd (k := 0)).1, ← (cdd (k := 0)).1, (dv256 (by clear hf u0 u1 u2 u3 u4; omega) u0).1, (dv256 (by clear hf u0 u1 u2 u3 u4; omega) u1).1, (dv256 (by clear hf u0 u1 u2 u3 u4; omega) u2).1, (dv256 (by clear hf u0 u1 u2 u3 u4; omega) u3).1]
  rw [hf, v0, ca2 u0 u4, mod128 (by clear hf u0 u1 u2 u3 u4 v0; omega)]
  clear hf u0 u1 u2 u3 u4 v0
  omega
