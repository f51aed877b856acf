/-! THE MATHEMATICAL HALF: how the pure functions are evaluated; a long as a set of fields. -/
theorem ev_grd {β : Type} {i : Int32} {n : Nat} (x : Option β) (h : vp_in i n) : jgrd i n x = x := by
  unfold jgrd
  exact if_neg h
theorem ev_grdN {β : Type} {k n : Nat} (x : Option β) (h : k < n) (hn : n < 2 ^ 31) : jgrd (nI k) n x = x := ev_grd x (vp_in_nI h hn)
theorem ev_div {β : Type} {y : Int32} (x : Option β) (h : ¬ y = 0) : jdiv y x = x := by
  unfold jdiv
  exact if_neg h
theorem ev_bool {β : Type} {y : Int32} (x : Option β) (h : y = 0 ∨ y = 1) : jbool y x = x := by
  unfold jbool
  exact if_pos h
theorem ev_b {α β : Type} {x : Option α} {a : α} (f : α → Option β) (h : x = some a) : jb x f = f a := by
  rw [h]
  rfl
theorem ev_bnd {α β : Type} (a : α) (f : α → Option β) : bnd a f = f a := rfl
/-- a condition as an int -/
def bI (b : Bool) : Int32 := if b then 1 else 0
theorem bI_01 (b : Bool) : bI b = 0 ∨ bI b = 1 := by cases b <;> simp [bI]
theorem bI_0 (b : Bool) : bI b = 0 ↔ b = false := by cases b <;> simp [bI]
/-- field f is in the long x -/
def tb (x : Int64) (f : Nat) : Bool := x.toBitVec.getLsbD f
theorem tb_and (x y : Int64) (f : Nat) : tb (x &&& y) f = (tb x f && tb y f) := by
  unfold tb
  rw [Int64.toBitVec_and, BitVec.getLsbD_and]
theorem tb_or (x y : Int64) (f : Nat) : tb (x ||| y) f = (tb x f || tb y f) := by
  unfold tb
  rw [Int64.toBitVec_or, BitVec.getLsbD_or]
theorem tb_hi {f : Nat} (h : 64 ≤ f) (x : Int64) : tb x f = false := by
  unfold tb
  exact BitVec.getLsbD_of_ge _ _ h
theorem tb_0 (f : Nat) : tb 0 f = false := by
  unfold tb
  show (0#64).getLsbD f = false
  simp
theorem tb_not {f : Nat} (hf : f < 64) (x : Int64) : tb (x ^^^ (-1)) f = !tb x f := by
  unfold tb
  have ha : (-1 : Int64).toBitVec = BitVec.allOnes 64 := by decide
  rw [Int64.toBitVec_xor, BitVec.getLsbD_xor, ha, BitVec.getLsbD_allOnes]
  simp [hf]
theorem tb_ext {x y : Int64} (h : ∀ f, f < 64 → tb x f = tb y f) : x = y := by
  apply Int64.toBitVec_inj.mp
  apply BitVec.eq_of_getLsbD_eq
  intro i hi
  exact h i hi
theorem tb_zero {x : Int64} : x = 0 ↔ ∀ f, f < 64 → tb x f = false :=
  ⟨fun h f _ => by rw [h]; exact tb_0 f, fun h => tb_ext fun f hf => by rw [h f hf, tb_0]⟩
theorem tb_c : ∀ k, k < 64 → ((nI k).toInt64 &&& 63) = lN k := by decide +kernel
theorem tb_cu : ∀ k, k < 64 → ((nI k).toInt64.toUInt64 &&& Int64.toUInt64 63) = UInt64.ofNat k := by decide +kernel
theorem tb_sm : ∀ k, k < 64 → (BitVec.ofNat 64 k).smod 64 = BitVec.ofNat 64 k := by decide +kernel
theorem tb_shl {k : Nat} (hk : k < 64) (x : Int64) (f : Nat) : tb (jlshl x (nI k)) f = (decide (f < 64) && !decide (f < k) && tb x (f - k)) := by
  unfold tb jlshl
  rw [tb_c k hk, Int64.toBitVec_shiftLeft]
  show (x.toBitVec <<< (BitVec.ofNat 64 k).smod 64).getLsbD f = _
  rw [tb_sm k hk, BitVec.shiftLeft_eq', BitVec.toNat_ofNat, Nat.mod_eq_of_lt (show k < 2 ^ 64 by omega), BitVec.getLsbD_shiftLeft]
theorem tb_shr {k : Nat} (hk : k < 64) (x : Int64) (f : Nat) : tb (jlushr x (nI k)) f = tb x (k + f) := by
  unfold tb jlushr
  rw [tb_cu k hk]
  have e : (x.toUInt64 >>> UInt64.ofNat k).toInt64.toBitVec = x.toBitVec >>> k := by
    apply BitVec.eq_of_toNat_eq
    show (x.toUInt64 >>> UInt64.ofNat k).toNat = _
    have h1 : (UInt64.ofNat k).toNat = k := by
      show (BitVec.ofNat 64 k).toNat = k
      rw [BitVec.toNat_ofNat, Nat.mod_eq_of_lt (by omega)]
    rw [UInt64.toNat_shiftRight, h1, Nat.mod_eq_of_lt hk, BitVec.toNat_ushiftRight]
    rfl
  rw [e, BitVec.getLsbD_ushiftRight]
theorem tb_1 (f : Nat) : tb 1 f = decide (f = 0) := by
  unfold tb
  show (1#64).getLsbD f = _
  cases f with
  | zero => rfl
  | succ f => simp
theorem tb_one {k : Nat} (hk : k < 64) (f : Nat) : tb (jlshl 1 (nI k)) f = decide (f = k) := by
  rw [tb_shl hk, tb_1]
  by_cases h : f = k
  · subst h; simp [hk]
  · simp only [h, decide_false]
    by_cases h2 : f < k
    · simp [h2]
    · have : ¬ f - k = 0 := by omega
      simp [this]
/-! Fields: f = x + 8 y; the fields of something w wide and h high at (x, y). -/
def inB (x y w h f : Nat) : Bool := decide (x ≤ f % 8) && decide (f % 8 < x + w) && decide (y ≤ f / 8) && decide (f / 8 < y + h)
theorem s_isBound {k : Nat} (hk : k < 6) : f_BargeBasin_isBound (nI k) = some (bI (decide (k = 1 ∨ k = 5))) := by
  have h : ∀ k, k < 6 → f_BargeBasin_isBound (nI k) = some (bI (decide (k = 1 ∨ k = 5))) := by decide +kernel
  exact h k hk
theorem s_wideOf {n : Nat} (b : Bool) : f_Chart_wideOf (nI n) (bI b) = some (nI (if b then 1 else n)) := by
  cases b
  · simp [f_Chart_wideOf, bI]
  · simp [f_Chart_wideOf, bI, nI]
theorem s_highOf {k n : Nat} (hk : k < 6) (b : Bool) : f_Chart_highOf (nI k) (nI n) (bI b) = some (nI (if b then n else if k = 3 then n else 1)) := by
  cases b
  · simp only [f_Chart_highOf, bI, Bool.false_eq_true, if_false]
    rw [if_pos trivial]
    by_cases h : k = 3
    · subst h; rw [if_pos (show nI 3 = 3 from rfl), if_pos rfl]
    · have q : ¬ nI k = 3 := fun e => h ((nI_eq (by omega) (by omega)).mp (show nI k = nI 3 from e))
      rw [if_neg q, if_neg h]; rfl
  · simp only [f_Chart_highOf, bI, if_true]
    rw [if_neg (by decide)]
def shp (w : Nat) : Nat → Int64
  | 0 => 0
  | h + 1 => shp w h ||| jlshl (jlshl 1 (nI w) - 1) (8 * nI h)
theorem s_shapeL {w hh : Nat} (hb : hh < 2 ^ 31) : ∀ (d y n : Nat), y + d = hh → d < n → f_Chart_shapeOf_L12 (nI hh) (jlshl 1 (nI w) - 1) n (shp w y) (nI y) = some (shp w hh) := by
  intro d
  induction d with
  | zero =>
    intro y n h hn
    obtain ⟨m, rfl⟩ : ∃ m, n = m + 1 := ⟨n - 1, by omega⟩
    have e : y = hh := by omega
    subst e
    rw [f_Chart_shapeOf_L12, if_pos (nI_le (Nat.le_refl _) hb)]
  | succ d ih =>
    intro y n h hn
    obtain ⟨m, rfl⟩ : ∃ m, n = m + 1 := ⟨n - 1, by omega⟩
    rw [f_Chart_shapeOf_L12, if_neg (nI_ge (show y < hh by omega) hb)]
    show f_Chart_shapeOf_L12 (nI hh) (jlshl 1 (nI w) - 1) m (shp w (y + 1)) (nI y + 1) = _
    rw [nI_1]
    exact ih (y + 1) m (by omega) (by omega)
theorem s_shapeOf {w h : Nat} (hb : h < 100) : f_Chart_shapeOf (nI w) (nI h) = some (shp w h) := by
  have e := s_shapeL (w := w) (hh := h) (by omega) h 0 jN (by omega) (by show h < 2000000; omega)
  unfold f_Chart_shapeOf
  rw [ev_bnd, ev_b _ (show f_Chart_shapeOf_L12 (nI h) (jlshl 1 (nI w) - 1) jN 0 0 = some (shp w h) from e)]
theorem shp_tb : ∀ w, w < 5 → ∀ h, h < 5 → ∀ f, f < 64 → tb (shp w h) f = inB 0 0 w h f := by decide +kernel
theorem inB_shift {p w h f : Nat} (hw : p % 8 + w ≤ 8) (hpf : p ≤ f) : inB 0 0 w h (f - p) = inB (p % 8) (p / 8) w h f := by
  unfold inB
  rw [Bool.eq_iff_iff]
  simp only [Bool.and_eq_true, decide_eq_true_eq]
  omega
theorem inB_low {p w h f : Nat} (hpf : f < p) : inB (p % 8) (p / 8) w h f = false := by
  unfold inB
  rw [Bool.eq_false_iff]
  simp only [ne_eq, Bool.and_eq_true, decide_eq_true_eq]
  omega
/-- the fields of a barge w wide, h high, at place p -/
theorem shp_at {p w h f : Nat} (hp : p < 64) (hw4 : w < 5) (hh4 : h < 5) (hw : p % 8 + w ≤ 8) (hf : f < 64) : tb (jlshl (shp w h) (nI p)) f = inB (p % 8) (p / 8) w h f := by
  rw [tb_shl hp]
  by_cases hpf : f < p
  · rw [inB_low hpf]
    simp [hpf]
  · rw [shp_tb w hw4 h hh4 (f - p) (by omega), inB_shift hw (by omega)]
    simp [hpf, hf]
