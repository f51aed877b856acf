/-! Long.bitCount of a set of fields. -/
def uN (x : Int64) : Nat := x.toBitVec.toNat
theorem uN_lt (x : Int64) : uN x < 2 ^ 64 := x.toBitVec.isLt
theorem uN_and (x y : Int64) : uN (x &&& y) = uN x &&& uN y := by
  unfold uN
  rw [Int64.toBitVec_and, BitVec.toNat_and]
theorem uN_add {x y : Int64} (h : uN x + uN y < 2 ^ 64) : uN (x + y) = uN x + uN y := by
  unfold uN at *
  rw [Int64.toBitVec_add, BitVec.toNat_add, Nat.mod_eq_of_lt h]
theorem uN_sub {x y : Int64} (h : uN y ≤ uN x) : uN (x - y) = uN x - uN y := by
  have := uN_lt x
  unfold uN at *
  rw [Int64.toBitVec_sub, BitVec.toNat_sub]
  omega
theorem uN_shr {k : Nat} (hk : k < 64) (x : Int64) : uN (jlushr x (nI k)) = uN x / 2 ^ k := by
  unfold uN jlushr
  rw [tb_cu k hk]
  show (x.toUInt64 >>> UInt64.ofNat k).toNat = _
  have h1 : (UInt64.ofNat k).toNat = k := by
    show (BitVec.ofNat 64 k).toNat = k
    rw [BitVec.toNat_ofNat, Nat.mod_eq_of_lt (by omega)]
  rw [UInt64.toNat_shiftRight, h1, Nat.mod_eq_of_lt hk, Nat.shiftRight_eq_div_pow]
  rfl
theorem pow8 : (256 : Nat) ^ 8 = 2 ^ 64 := by decide
theorem and127 {n : Nat} : n &&& 127 = n % 128 := Nat.and_two_pow_sub_one_eq_mod n 7
theorem to127 (x : Int64) : (x.toInt32 &&& (127 : Int32)) = nI (uN x % 128) := by
  apply Int32.toBitVec_inj.mp
  apply BitVec.eq_of_toNat_eq
  rw [Int32.toBitVec_and, BitVec.toNat_and]
  have h1 : (127 : Int32).toBitVec.toNat = 127 := by decide
  have h2 : x.toInt32.toBitVec.toNat = uN x % 2 ^ 32 := by
    rw [Int64.toBitVec_toInt32]
    unfold uN
    rw [BitVec.signExtend_eq_setWidth_of_le _ (by decide), BitVec.toNat_setWidth]
  have h3 : (nI (uN x % 128)).toBitVec.toNat = uN x % 128 := by
    show (BitVec.ofNat 32 (uN x % 128)).toNat = _
    rw [BitVec.toNat_ofNat]
    omega
  rw [h1, h2, h3, and127]
  omega
theorem mkB51 : mkB 51 8 = 3689348814741910323 := by decide
theorem uN_m5 : uN (6148914691236517205 : Int64) = mkB 85 8 := by decide
theorem uN_m3 : uN (3689348814741910323 : Int64) = mkB 51 8 := by decide
theorem uN_mf : uN (1085102592571150095 : Int64) = mkB 15 8 := by decide
theorem bt_a (x : Int64) : uN (x - (jlushr x (1 : Int32) &&& (6148914691236517205 : Int64))) = uN x - (uN x / 2 &&& mkB 85 8) := by
  have s1 : uN (jlushr x (1 : Int32)) = uN x / 2 := uN_shr (k := 1) (by decide) x
  have e1 : uN (jlushr x (1 : Int32) &&& (6148914691236517205 : Int64)) = (uN x / 2 &&& mkB 85 8) := by rw [uN_and, s1, uN_m5]
  have l : (uN x / 2 &&& mkB 85 8) ≤ uN x / 2 := Nat.and_le_left
  generalize mkB 85 8 = M at *
  rw [uN_sub (by rw [e1]; omega), e1]
theorem bt_b (a : Int64) : uN ((a &&& (3689348814741910323 : Int64)) + (jlushr a (2 : Int32) &&& (3689348814741910323 : Int64))) = (uN a &&& mkB 51 8) + (uN a / 4 &&& mkB 51 8) ∧ (uN a &&& mkB 51 8) + (uN a / 4 &&& mkB 51 8) ≤ 7378697629483820646 := by
  have s2 : uN (jlushr a (2 : Int32)) = uN a / 4 := uN_shr (k := 2) (by decide) a
  have e1 : uN (a &&& (3689348814741910323 : Int64)) = (uN a &&& mkB 51 8) := by rw [uN_and, uN_m3]
  have e2 : uN (jlushr a (2 : Int32) &&& (3689348814741910323 : Int64)) = (uN a / 4 &&& mkB 51 8) := by rw [uN_and, s2, uN_m3]
  have l1 : (uN a &&& mkB 51 8) ≤ mkB 51 8 := Nat.and_le_right
  have l2 : (uN a / 4 &&& mkB 51 8) ≤ mkB 51 8 := Nat.and_le_right
  have l3 := mkB51
  generalize mkB 51 8 = M at *
  have l4 : (uN a &&& M) + (uN a / 4 &&& M) ≤ 7378697629483820646 := by omega
  exact ⟨by rw [uN_add (by rw [e1, e2]; omega), e1, e2], l4⟩
theorem bt_c {b : Int64} (hb : uN b ≤ 7378697629483820646) : uN ((b + jlushr b (4 : Int32)) &&& (1085102592571150095 : Int64)) = (uN b + uN b / 16) &&& mkB 15 8 := by
  have s3 : uN (jlushr b (4 : Int32)) = uN b / 16 := uN_shr (k := 4) (by decide) b
  rw [uN_and, uN_mf, uN_add (by rw [s3]; omega), s3]
theorem bt_s {k : Nat} (hk : k < 64) {c : Int64} {C : Nat} (hc : uN c = C) (h : C + C / 2 ^ k < 2 ^ 64) : uN (c + jlushr c (nI k)) = C + C / 2 ^ k := by
  have s := uN_shr hk c
  rw [hc] at s
  rw [uN_add (by rw [s, hc]; exact h), s, hc]
theorem bmap_s (g : Nat → Nat) (n x : Nat) : bmap g (n + 1) x = g (x % 256) + 256 * bmap g n (x / 256) := rfl
theorem bmap_0 (g : Nat → Nat) (x : Nat) : bmap g 1 x = g (x % 256) := by
  show g (x % 256) + 256 * 0 = _
  omega
theorem bt_sum {g : Nat → Nat} (hg : ∀ r, g r ≤ 8) (x C : Nat) (hC : C = bmap g 8 x) : C + C / 256 < 2 ^ 64 ∧ C + C / 256 + (C + C / 256) / 65536 < 2 ^ 64 ∧ C + C / 256 + (C + C / 256) / 65536 + (C + C / 256 + (C + C / 256) / 65536) / 4294967296 < 2 ^ 64 ∧ (C + C / 256 + (C + C / 256) / 65536 + (C + C / 256 + (C + C / 256) / 65536) / 4294967296) % 128 = g (x % 256) + g (x / 256 % 256) + g (x / 256 / 256 % 256) + g (x / 256 / 256 / 256 % 256) + g (x / 256 / 256 / 256 / 256 % 256) + g (x / 256 / 256 / 256 / 256 / 256 % 256) + g (x / 256 / 256 / 256 / 256 / 256 / 256 % 256) + g (x / 256 / 256 / 256 / 256 / 256 / 256 / 256 % 256) :=
  bc_end (hg _) (hg _) (hg _) (hg _) (hg _) (hg _) (hg _) (hg _) (hC.trans (bmap_s g 7 x)) (bmap_s g 6 _) (bmap_s g 5 _) (bmap_s g 4 _) (bmap_s g 3 _) (bmap_s g 2 _) ((bmap_s g 1 _).trans (by rw [bmap_0])) rfl rfl rfl
theorem pcN_64 (x : Nat) : pcN 64 x = pcN 8 (x % 256) + pcN 8 (x / 256 % 256) + pcN 8 (x / 256 / 256 % 256) + pcN 8 (x / 256 / 256 / 256 % 256) + pcN 8 (x / 256 / 256 / 256 / 256 % 256) + pcN 8 (x / 256 / 256 / 256 / 256 / 256 % 256) + pcN 8 (x / 256 / 256 / 256 / 256 / 256 / 256 % 256) + pcN 8 (x / 256 / 256 / 256 / 256 / 256 / 256 / 256 % 256) := by
  have m : ∀ y, pcN 8 (y % 256) = pcN 8 y := fun y => pcN_mod 8 y
  have sp : ∀ n y, pcN (8 + n) y = pcN 8 y + pcN n (y / 256) := fun n y => pcN_add 8 n y
  simp only [m]
  have e : (64 : Nat) = 8 + (8 + (8 + (8 + (8 + (8 + (8 + 8)))))) := rfl
  rw [e, sp, sp, sp, sp, sp, sp, sp]
  simp only [Nat.add_assoc]
theorem s_bitCount0 (x : Int64) : f_Long_bitCount x = some (nI (pcN 64 (uN x))) := by
  have lx : uN x < 256 ^ 8 := by rw [pow8]; exact uN_lt x
  unfold f_Long_bitCount
  simp only [ev_bnd]
  have a1 := bt_a x
  generalize x - (jlushr x (1 : Int32) &&& (6148914691236517205 : Int64)) = a at *
  obtain ⟨b1, b2⟩ := bt_b a
  generalize (a &&& (3689348814741910323 : Int64)) + (jlushr a (2 : Int32) &&& (3689348814741910323 : Int64)) = b at *
  have k := (bc_123 lx a1 b1).2
  have c1 := bt_c (b := b) (by rw [b1]; exact b2)
  rw [k] at c1
  generalize ((b + jlushr b (4 : Int32)) &&& (1085102592571150095 : Int64)) = c at *
  obtain ⟨z1, z2, z3, z4⟩ := bt_sum (g := pcN 8) (pcN_le 8) (uN x) _ rfl
  rw [← pcN_64] at z4
  generalize bmap (pcN 8) 8 (uN x) = C at *
  have d1 : uN (c + jlushr c (8 : Int32)) = C + C / 256 := bt_s (k := 8) (by decide) c1 z1
  generalize c + jlushr c (8 : Int32) = d at *
  have e1 : uN (d + jlushr d (16 : Int32)) = _ := bt_s (k := 16) (by decide) d1 z2
  generalize d + jlushr d (16 : Int32) = e at *
  have f1 : uN (e + jlushr e (32 : Int32)) = _ := bt_s (k := 32) (by decide) e1 z3
  rw [to127, f1]
  exact congrArg (fun t => some (nI t)) z4
/-- how many of the numbers below n -/
def nmF (p : Nat → Bool) : Nat → Nat
  | 0 => 0
  | n + 1 => nmF p n + (if p n then 1 else 0)
theorem nmF_cg {p q : Nat → Bool} : ∀ {n : Nat}, (∀ i, i < n → p i = q i) → nmF p n = nmF q n
  | 0, _ => rfl
  | n + 1, h => by
    unfold nmF
    rw [nmF_cg (fun i hi => h i (by omega)), h n (by omega)]
theorem pcN_nm : ∀ (n x : Nat), pcN n x = nmF (fun i => x.testBit i) n := by
  intro n
  induction n with
  | zero => intro x; rfl
  | succ n ih =>
    intro x
    rw [pcN_add n 1 x, ih]
    show nmF _ n + ((x / 2 ^ n) % 2 + 0) = nmF _ n + (if x.testBit n then 1 else 0)
    rw [Nat.testBit_eq_decide_div_mod_eq]
    by_cases c : x / 2 ^ n % 2 = 1
    · simp [c]
    · have : x / 2 ^ n % 2 = 0 := by omega
      simp [this]
theorem s_bitCount {x : Int64} {p : Nat → Bool} (h : ∀ f, f < 64 → tb x f = p f) : f_Long_bitCount x = some (nI (nmF p 64)) := by
  rw [s_bitCount0, pcN_nm, nmF_cg (p := fun i => (uN x).testBit i) (q := p) (fun i hi => by rw [← h i hi]; rfl)]
