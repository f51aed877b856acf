/-! Long.bitCount, byte by byte. -/
def mkB (c : Nat) : Nat → Nat
  | 0 => 0
  | n + 1 => 256 * mkB c n + c
def bmap (g : Nat → Nat) : Nat → Nat → Nat
  | 0, _ => 0
  | n + 1, x => g (x % 256) + 256 * bmap g n (x / 256)
def bc1 (r : Nat) : Nat := r - (r / 2 &&& 85)
def bc2 (r : Nat) : Nat := (r &&& 51) + (r / 4 &&& 51)
def bc3 (r : Nat) : Nat := (r + r / 16) &&& 15
theorem bc_a : ∀ r, r < 256 → ∀ t, t < 2 → ((128 * t + r / 2) &&& 85) = (r / 2 &&& 85) := by decide +kernel
theorem bc_b : ∀ r, r < 256 → ∀ t, t < 4 → ((64 * t + r / 4) &&& 51) = (r / 4 &&& 51) := by decide +kernel
theorem bc_c : ∀ r, r < 69 → ∀ t, t < 5 → ((r + r / 16 + 16 * t) &&& 15) = bc3 r := by decide +kernel
theorem bc_r : ∀ r, r < 256 → bc1 r < 256 ∧ bc2 (bc1 r) < 69 ∧ bc2 (bc1 r) % 16 < 5 ∧ bc3 (bc2 (bc1 r)) = pcN 8 r := by decide +kernel
theorem land256 {Y r M m : Nat} (hr : r < 256) (hm : m < 256) : (256 * Y + r) &&& (256 * M + m) = 256 * (Y &&& M) + (r &&& m) := land_cat (w := 8) hr hm
theorem pow256 (n : Nat) : 256 ^ (n + 1) = 256 * 256 ^ n := by rw [Nat.pow_succ, Nat.mul_comm]
theorem bc_1 : ∀ (n x : Nat), x < 256 ^ n → x - (x / 2 &&& mkB 85 n) = bmap bc1 n x := by
  intro n
  induction n with
  | zero => intro x hx; have : x = 0 := by simpa using hx
            subst this; rfl
  | succ n ih =>
    intro x hx
    rw [pow256] at hx
    have hY : x / 256 < 256 ^ n := by omega
    have e := ih (x / 256) hY
    have q : x / 2 = 256 * (x / 256 / 2) + (128 * (x / 256 % 2) + x % 256 / 2) := by omega
    have l1 : (x / 256 / 2 &&& mkB 85 n) ≤ x / 256 / 2 := Nat.and_le_left
    have l2 : (x % 256 / 2 &&& 85) ≤ x % 256 / 2 := Nat.and_le_left
    show x - (x / 2 &&& (256 * mkB 85 n + 85)) = bc1 (x % 256) + 256 * bmap bc1 n (x / 256)
    rw [← e, q, land256 (by omega) (by decide), bc_a _ (by omega) _ (by omega)]
    unfold bc1
    omega
theorem bc_2 : ∀ (n x : Nat), x < 256 ^ n → (x &&& mkB 51 n) + (x / 4 &&& mkB 51 n) = bmap bc2 n x := by
  intro n
  induction n with
  | zero => intro x hx; have : x = 0 := by simpa using hx
            subst this; rfl
  | succ n ih =>
    intro x hx
    rw [pow256] at hx
    have hY : x / 256 < 256 ^ n := by omega
    have e := ih (x / 256) hY
    have q0 : x = 256 * (x / 256) + x % 256 := by omega
    have q : x / 4 = 256 * (x / 256 / 4) + (64 * (x / 256 % 4) + x % 256 / 4) := by omega
    have a1 : (x &&& (256 * mkB 51 n + 51)) = 256 * (x / 256 &&& mkB 51 n) + (x % 256 &&& 51) := by
      rw [← land256 (Y := x / 256) (r := x % 256) (by omega) (by decide), ← q0]
    show (x &&& (256 * mkB 51 n + 51)) + (x / 4 &&& (256 * mkB 51 n + 51)) = bc2 (x % 256) + 256 * bmap bc2 n (x / 256)
    rw [a1, ← e, q, land256 (by omega) (by decide), bc_b _ (by omega) _ (by omega)]
    unfold bc2
    omega
/-- every byte's halves are below 5 -/
def nib : Nat → Nat → Prop
  | 0, _ => True
  | n + 1, x => x % 256 < 69 ∧ x % 256 % 16 < 5 ∧ nib n (x / 256)
theorem nib_16 : ∀ (n x : Nat), x < 256 ^ n → nib n x → x % 16 < 5 := by
  intro n x hx h
  cases n with
  | zero => have : x = 0 := by simpa using hx
            subst this; decide
  | succ n => have := h.2.1; omega
theorem bc_3 : ∀ (n x : Nat), x < 256 ^ n → nib n x → (x + x / 16) &&& mkB 15 n = bmap bc3 n x := by
  intro n
  induction n with
  | zero => intro x hx _; have : x = 0 := by simpa using hx
            subst this; rfl
  | succ n ih =>
    intro x hx hn
    rw [pow256] at hx
    have hY : x / 256 < 256 ^ n := by omega
    have e := ih (x / 256) hY hn.2.2
    have n5 := nib_16 n (x / 256) hY hn.2.2
    have n1 := hn.1
    have q : x + x / 16 = 256 * (x / 256 + x / 256 / 16) + (x % 256 + x % 256 / 16 + 16 * (x / 256 % 16)) := by omega
    show (x + x / 16) &&& (256 * mkB 15 n + 15) = bc3 (x % 256) + 256 * bmap bc3 n (x / 256)
    rw [q, land256 (by omega) (by decide), bc_c _ n1 _ n5, e]
    omega
theorem bmap_lt {g : Nat → Nat} (hg : ∀ r, r < 256 → g r < 256) : ∀ (n x : Nat), bmap g n x < 256 ^ n := by
  intro n
  induction n with
  | zero => intro x; exact Nat.one_pos
  | succ n ih => intro x; rw [pow256]; have := ih (x / 256); have := hg (x % 256) (by omega); unfold bmap; omega
theorem bmap_mod {g : Nat → Nat} (hg : ∀ r, r < 256 → g r < 256) (n x : Nat) : bmap g (n + 1) x % 256 = g (x % 256) ∧ bmap g (n + 1) x / 256 = bmap g n (x / 256) := by
  have := hg (x % 256) (by omega)
  show (g (x % 256) + 256 * bmap g n (x / 256)) % 256 = _ ∧ (g (x % 256) + 256 * bmap g n (x / 256)) / 256 = _
  omega
theorem bmap_comp {g k : Nat → Nat} (hg : ∀ r, r < 256 → g r < 256) : ∀ (n x : Nat), bmap k n (bmap g n x) = bmap (fun r => k (g r)) n x := by
  intro n
  induction n with
  | zero => intro x; rfl
  | succ n ih =>
    intro x
    have q := bmap_mod hg n x
    show k (bmap g (n + 1) x % 256) + 256 * bmap k n (bmap g (n + 1) x / 256) = k (g (x % 256)) + 256 * bmap (fun r => k (g r)) n (x / 256)
    rw [q.1, q.2, ih]
theorem bmap_cg {g k : Nat → Nat} (h : ∀ r, r < 256 → g r = k r) : ∀ (n x : Nat), bmap g n x = bmap k n x := by
  intro n
  induction n with
  | zero => intro x; rfl
  | succ n ih => intro x; unfold bmap; rw [h _ (by omega), ih]
theorem bmap_nib {g : Nat → Nat} (hg : ∀ r, r < 256 → g r < 69 ∧ g r % 16 < 5) : ∀ (n x : Nat), nib n (bmap g n x) := by
  intro n
  induction n with
  | zero => intro x; trivial
  | succ n ih =>
    intro x
    have q := bmap_mod (g := g) (fun r hr => by have := (hg r hr).1; omega) n x
    have := hg (x % 256) (by omega)
    exact ⟨by rw [q.1]; exact this.1, by rw [q.1]; exact this.2, by rw [q.2]; exact ih _⟩
/-- the first three steps -/
theorem bc_123 {n x a b : Nat} (hx : x < 256 ^ n) (ha : a = x - (x / 2 &&& mkB 85 n)) (hb : b = (a &&& mkB 51 n) + (a / 4 &&& mkB 51 n)) : b < 69 * 256 ^ n ∧ (b + b / 16) &&& mkB 15 n = bmap (pcN 8) n x := by
  have h1 : ∀ r, r < 256 → bc1 r < 256 := fun r hr => (bc_r r hr).1
  have ea : a = bmap bc1 n x := by rw [ha, bc_1 n x hx]
  have la : a < 256 ^ n := by rw [ea]; exact bmap_lt h1 n x
  have eb : b = bmap (fun r => bc2 (bc1 r)) n x := by rw [hb, bc_2 n a la, ea, bmap_comp h1]
  have lb : b < 256 ^ n := by rw [eb]; exact bmap_lt (fun r hr => by have := (bc_r r hr).2.1; omega) n x
  refine ⟨by omega, ?_⟩
  rw [bc_3 n b lb (by rw [eb]; exact bmap_nib (fun r hr => ⟨(bc_r r hr).2.1, (bc_r r hr).2.2.1⟩) n x), eb, bmap_comp (fun r hr => by have := (bc_r r hr).2.1; omega)]
  exact bmap_cg (fun r hr => (bc_r r hr).2.2.2) n x
theorem pcN_mod : ∀ (n x : Nat), pcN n (x % 2 ^ n) = pcN n x := by
  intro n
  induction n with
  | zero => intro x; rfl
  | succ n ih =>
    intro x
    show x % 2 ^ (n + 1) % 2 + pcN n (x % 2 ^ (n + 1) / 2) = x % 2 + pcN n (x / 2)
    rw [Nat.pow_succ, Nat.mul_comm (2 ^ n) 2, Nat.mod_mul_right_mod, Nat.mod_mul_right_div_self, ih]
def sm8 : Nat → Nat → Nat
  | 0, _ => 0
  | n + 1, x => x % 256 + sm8 n (x / 256)
theorem bc_sum : ∀ (n x : Nat), sm8 n (bmap (pcN 8) n x) = pcN (8 * n) x := by
  intro n
  induction n with
  | zero => intro x; rfl
  | succ n ih =>
    intro x
    have q := bmap_mod (g := pcN 8) (fun r _ => by have := pcN_le 8 r; omega) n x
    show bmap (pcN 8) (n + 1) x % 256 + sm8 n (bmap (pcN 8) (n + 1) x / 256) = _
    rw [q.1, q.2, ih, show 8 * (n + 1) = 8 + 8 * n by omega, pcN_add 8 (8 * n) x]
    have := pcN_mod 8 x
    show pcN 8 (x % 256) + _ = pcN 8 x + pcN (8 * n) (x / 256)
    rw [show pcN 8 (x % 256) = pcN 8 x from this]
