/-! THE LAW's INVARIANT, pure: over tuples of contents (printed by wip/law/pk.py; the tuples' order: wip/law/law.py). -/
abbrev qF : Type := Nat → Int32
abbrev qJ : Type := Nat → Int64
abbrev qQ : Type := Nat → Option Nat
abbrev qO : Type := Int32 × Int32 × Int32 × Int32 × Int32
abbrev qL : Type := qF × qF × qF × qF
abbrev qC : Type := Int32 × Int32 × Int32 × Int64 × Int64 × qF × qF × qF × qF × qF × qF × qF × qJ
abbrev qG : Type := Int32 × Int32 × Int32 × qF
abbrev qS : Type := Int32 × Int32 × Int32 × qJ × qJ × qF × qF × qF × qF × qF × qJ
abbrev qP : Type := Int32 × qF
abbrev q_mi : Type := Int32 × Int32 × Int32 × Int32 × Int32 × Int32 × Int32 × Int32
abbrev q_mw : Type := Int32 × Int32 × Int32
abbrev q_mp : Type := Int32 × Int32 × qF × qF × qF
abbrev q_ml : Type := qF × qF × qF × qF
abbrev q_mb : Type := qF × qF × qF × qF × qF
abbrev q_mu : Type := qF × qF × qF × qF × qF × qF
abbrev q_ms : Type := Int32 × Int32 × qF × qF × qF × qF × qF × qF × qF × qF × qF × qF × qF × qF × qJ
abbrev q_mk : Type := qF × qF × qF × qF × qF × qF × qF × qF × qF × qF
abbrev q_mo : Type := Int32 × qF
abbrev q_mt : Type := Int32 × Int32 × Int32 × qF × qF × qF × qF × qF × qF × qF × qF × qF × qF × qF
/-- no basin yet, or a basin that both sides hold -/
def basI (c : qC) (g : qG) (ln : qL) (mi : q_mi) (ml : q_ml) (mb : q_mb) (mu : q_mu) : Prop :=
  (c.1 = 0 ∧ mi.2.2.1 = 0 ∧ ∃ f, g.1 = nI f ∧ f < 60) ∨ ∃ X : BP, okX X ∧ chX X.1 X.2 c.1 c.2.1 c.2.2.1 c.2.2.2.1 c.2.2.2.2.1 c.2.2.2.2.2.1 c.2.2.2.2.2.2.1 c.2.2.2.2.2.2.2.1 c.2.2.2.2.2.2.2.2.1 c.2.2.2.2.2.2.2.2.2.1 c.2.2.2.2.2.2.2.2.2.2.1 c.2.2.2.2.2.2.2.2.2.2.2.1 c.2.2.2.2.2.2.2.2.2.2.2.2 ∧ rfX X.1 X.2 mi.2.2.1 mi.2.2.2.1 mi.2.2.2.2.1 mi.2.2.2.2.2.1 ml.2.2.2 mb.1 mb.2.1 mb.2.2.1 mb.2.2.2.1 mb.2.2.2.2 ∧
    lgR X.1 X.2 g.1 g.2.1 g.2.2.1 g.2.2.2 mi.2.2.2.2.2.2.1 mi.2.2.2.2.2.2.2 mu.1 mu.2.1 mu.2.2.1 mu.2.2.2.1 mu.2.2.2.2.1 mu.2.2.2.2.2 ∧ lnR X.1 ln.1 ln.2.1 ln.2.2.1 ml.1 ml.2.1 ml.2.2.1
def basJ (X : BP) (c : qC) (g : qG) (ln : qL) (mi : q_mi) (ml : q_ml) (mb : q_mb) (mu : q_mu) : Prop :=
  okX X ∧ chX X.1 X.2 c.1 c.2.1 c.2.2.1 c.2.2.2.1 c.2.2.2.2.1 c.2.2.2.2.2.1 c.2.2.2.2.2.2.1 c.2.2.2.2.2.2.2.1 c.2.2.2.2.2.2.2.2.1 c.2.2.2.2.2.2.2.2.2.1 c.2.2.2.2.2.2.2.2.2.2.1 c.2.2.2.2.2.2.2.2.2.2.2.1 c.2.2.2.2.2.2.2.2.2.2.2.2 ∧ rfX X.1 X.2 mi.2.2.1 mi.2.2.2.1 mi.2.2.2.2.1 mi.2.2.2.2.2.1 ml.2.2.2 mb.1 mb.2.1 mb.2.2.1 mb.2.2.2.1 mb.2.2.2.2 ∧
    lgR X.1 X.2 g.1 g.2.1 g.2.2.1 g.2.2.2 mi.2.2.2.2.2.2.1 mi.2.2.2.2.2.2.2 mu.1 mu.2.1 mu.2.2.1 mu.2.2.2.1 mu.2.2.2.2.1 mu.2.2.2.2.2 ∧ lnR X.1 ln.1 ln.2.1 ln.2.2.1 ml.1 ml.2.1 ml.2.2.1
/-- all but what search, plan and shelves ask -/
def lwB (o : qO) (ln : qL) (c : qC) (g : qG) (sw : qF) (mi : q_mi) (mw : q_mw) (ml : q_ml) (mb : q_mb) (mu : q_mu) (mo : q_mo) : Prop :=
  mi.1 = o.2.1 ∧ mw = (o.2.2.1, o.2.2.2.1, o.2.2.2.2) ∧ basI c g ln mi ml mb mu ∧ shR o.1 sw mo.1 mo.2
def plS (l : List Nat) (pv : qP) (mp : q_mp) : Prop := plR l pv.1 pv.2 mp.1 mp.2.1 mp.2.2.1 mp.2.2.2.1 mp.2.2.2.2
def kpS (X : BP) (k : Nat) (kc : qC) (mk : q_mk) : Prop := okX X ∧ chX X.1 X.2 kc.1 kc.2.1 kc.2.2.1 kc.2.2.2.1 kc.2.2.2.2.1 kc.2.2.2.2.2.1 kc.2.2.2.2.2.2.1 kc.2.2.2.2.2.2.2.1 kc.2.2.2.2.2.2.2.2.1 kc.2.2.2.2.2.2.2.2.2.1 kc.2.2.2.2.2.2.2.2.2.2.1 kc.2.2.2.2.2.2.2.2.2.2.2.1 kc.2.2.2.2.2.2.2.2.2.2.2.2 ∧ kpR X.1 X.2 k mk.1 mk.2.1 mk.2.2.1 mk.2.2.2.1 mk.2.2.2.2.1 mk.2.2.2.2.2.1 mk.2.2.2.2.2.2.1 mk.2.2.2.2.2.2.2.1 mk.2.2.2.2.2.2.2.2.1 mk.2.2.2.2.2.2.2.2.2
/-- the other shelves stay -/
def kpF (k : Nat) (mk mk₉ : q_mk) : Prop := (∀ j, j ≠ k → mk₉.1 j = mk.1 j) ∧ ∀ (C : BP) (j : Nat), bn C.1 ≤ 12 → j ≠ k → kpR C.1 C.2 j mk.1 mk.2.1 mk.2.2.1 mk.2.2.2.1 mk.2.2.2.2.1 mk.2.2.2.2.2.1 mk.2.2.2.2.2.2.1 mk.2.2.2.2.2.2.2.1 mk.2.2.2.2.2.2.2.2.1 mk.2.2.2.2.2.2.2.2.2 →
  kpR C.1 C.2 j mk₉.1 mk₉.2.1 mk₉.2.2.1 mk₉.2.2.2.1 mk₉.2.2.2.2.1 mk₉.2.2.2.2.2.1 mk₉.2.2.2.2.2.2.1 mk₉.2.2.2.2.2.2.2.1 mk₉.2.2.2.2.2.2.2.2.1 mk₉.2.2.2.2.2.2.2.2.2
theorem ch_mv {B : Bas} {P Q : Nat → Nat} {cw chh cn : Int32} {cwl ct ct₉ : Int64} {ck cp cp₉ cl cg ca cwd chg : Nat → Int32} {cs : Nat → Int64} (h : chX B P cw chh cn cwl ct ck cp cl cg ca cwd chg cs) (h1 : chT B Q ct₉) (h2 : chP B Q cp₉) : chX B Q cw chh cn cwl ct₉ ck cp₉ cl cg ca cwd chg cs :=
  ⟨h.1, h.2.1, h.2.2.1, h.2.2.2.1, h1, h.2.2.2.2.2.1, h2, h.2.2.2.2.2.2.2.1, h.2.2.2.2.2.2.2.2⟩
theorem rf_mv {B : Bas} {P Q : Nat → Nat} {khas kw kh kn : Int32} {kwl kk kat kat₉ ks ky kg : Nat → Int32} (h : rfX B P khas kw kh kn kwl kk kat ks ky kg) (h1 : chP B Q kat₉) : rfX B Q khas kw kh kn kwl kk kat₉ ks ky kg :=
  ⟨h.1, h.2.1, h.2.2.1, h.2.2.2.1, h.2.2.2.2.1, h.2.2.2.2.2.1, h1, h.2.2.2.2.2.2.2⟩
theorem ln_sam {B C : Bas} {csort csize cnum lsort lmany lnum : Nat → Int32} (h : samW B C) (hn : lnR B csort csize cnum lsort lmany lnum) : lnR C csort csize cnum lsort lmany lnum := by
  obtain ⟨e1, e2, e3⟩ := h
  unfold lnR at hn ⊢
  rw [e1, e2, e3]
  exact hn
theorem lg_new {B : Bas} {Q : Nat → Nat} {lf : Int32} {lm ub uf ut rb rf rt : Nat → Int32} {f : Nat} (h1 : lf = nI f) (h2 : f < 60) (hQ : stC B Q) : lgR B Q lf 0 0 lm 0 0 ub uf ut rb rf rt :=
  ⟨[], fun _ => Q, 0, ⟨Nat.zero_le _, Nat.le_refl _, rfl, fun _ _ => hQ, fun k hk => absurd hk (Nat.not_lt_zero k)⟩, ⟨f, h1, h2, rfl, rfl, fun k hk => absurd hk (Nat.not_lt_zero k)⟩, rfl, rfl, fun k hk => absurd hk (Nat.not_lt_zero k), fun k hk => absurd hk (Nat.not_lt_zero k)⟩
theorem lg_first {B : Bas} {P : Nat → Nat} {lf ld lu um rm : Int32} {lm ub uf ut rb rf rt : Nat → Int32} (h : lgR B P lf ld lu lm um rm ub uf ut rb rf rt) : ∃ f, lf = nI f ∧ f < 60 := by
  obtain ⟨T, S, D, -, ⟨f, h1, h2, -⟩, -⟩ := h
  exact ⟨f, h1, h2⟩
theorem bas_first {c : qC} {g : qG} {ln : qL} {mi : q_mi} {ml : q_ml} {mb : q_mb} {mu : q_mu} (h : basI c g ln mi ml mb mu) : ∃ f, g.1 = nI f ∧ f < 60 := by
  rcases h with ⟨-, -, h⟩ | ⟨X, -, -, -, h, -⟩
  · exact h
  · exact lg_first h
