def jNl : List Cond := [.fieldLinkNest RX0 102 RX6 "STEP" "[I" "BargeBasin", .methodLinkNest RX0 105 yX6_isBound "BargeBasin", .fieldLinkNest RX0 109 RX6 "STEP_X" "[I" "BargeBasin", .fieldLinkNest RX0 112 RX6 "STEP_Y" "[I" "BargeBasin", .methodLinkNest RX5 11 yX0_init "BargeBasin", .methodLinkNest RX5 93 yX6_bargeOf "BargeBasin", .methodLinkNest RX5 97 yX6_stepsOf "BargeBasin", .fieldLinkNest RX5 100 RX6 "STEP" "[I" "BargeBasin", .methodLinkNest RX5 103 yX6_directionOf "BargeBasin", .methodLinkNest RX5 133 yX6_moveOf "BargeBasin", .methodLinkNest RX6 9 yX2_init "BargeBasin", .methodLinkNest RX6 18 yX0_init "BargeBasin", .methodLinkNest RX6 28 yX3_init "BargeBasin", .methodLinkNest RX6 375 yX5_init "BargeBasin", .methodLinkNest RX6 376 yX4_init "BargeBasin"]
def jNw (U : State) : Prop := (∀ w ∈ jNl, va_Nw w U) ∧ va_AO RX0 U
def jIsN : Cond → Bool
  | .fieldLinkNest _ _ _ _ _ _ => true
  | .methodLinkNest _ _ _ _ => true
  | _ => false
theorem jNl_ok : jNl.all jIsN = true := by decide +kernel
theorem jNw_warm {s U : State} (hW : s.WarmedH U.vm) (h : jNw s) : jNw U := ⟨fun w hw => by
  have h1 : jIsN w = true := List.all_eq_true.mp jNl_ok w hw
  have h2 := h.1 w hw
  cases w <;> first | exact va_Nw.warmF hW h2 | exact va_Nw.warmM hW h2 | (cases h1; done), va_AO.moved hW.alike h.2⟩
theorem jNw_same {u U : State} (hu : u.vm = U.vm) (h : jNw u) : jNw U := ⟨fun w hw => by
  have h1 : jIsN w = true := List.all_eq_true.mp jNl_ok w hw
  have h2 := h.1 w hw
  cases w <;> first | exact va_Nw.same rfl hu h2 | (cases h1; done), va_AO.moved (by rw [hu]; exact Vm.Alike.refl _) h.2⟩
/-- the array classes of all worlds, in a fixed order -/
abbrev jT (cT : Nat → ClassId) : List (ClassId × FieldType) := [(cT 0, .int), (cT 1, .long), (cT 2, .boolean), (cT 3, .byte), (cT 4, .int), (cT 5, .int), (cT 6, .object "BargeBasin$Chart")]
section JX
variable {p : Program} {l : Launch} {e : Env} {R : Room} {s : State} {m : MethodId} {args : Array Value} {below : List Frame} {meth : Method} {c : Code} {H : Heap} {locs : List Loc} {cells slots : Nat} {Q : State → Prop}
variable {cc : ByteArray} {pc : Nat} {ls : Array Slot} {rest : List Value} {D : va_G} {cl : List vw_C} {A : Nat → Prop} {a : Nat} {tys : List (ClassId × FieldType)} {ws : va_W} {H0 : Heap}
theorem j_start {g : JFrame} (hP : va_P D cl ws s.heap) (k : ∀ (H : Heap) (locs : List Loc), va_P D cl ws H → va_S A s.heap H locs → W p l e R s m args below meth c H locs cells slots Q g) : W p l e R s m args below meth c s.heap [] cells slots Q g := k s.heap [] hP va_S.rf
theorem j_nameQ {g : JFrame} {Q0 : State → Prop} (k : ∀ Q : State → Prop, Q = Q0 → W p l e R s m args below meth c H locs cells slots Q g) : W p l e R s m args below meth c H locs cells slots Q0 g := k _ rfl
theorem j_run {mc ms : Nat} {g : JFrame} {Qa : State → Outcome → State → Prop} {free : Addr → Prop} (h : va_Run p l e R s m args below meth c H locs cells slots mc ms g rest Qa free) : CallRun p l e R s m args below meth c H locs cells slots mc ms g rest Qa free := fun T hT X => by
  obtain ⟨v, st₀, t, T₉, L, h0, X₉, hL, e1, -, hq, st⟩ := h T hT X
  exact ⟨v, st₀, t, T₉, L, h0, X₉, hL, e1, hq, st⟩
theorem jZ_at {C n d : String} {v : Value} (hZ : va_Z C n d v A s s.heap) (hS : va_S A s.heap H locs) : va_Z C n d v A s H := hZ.kept (fun a h1 h2 => hS.2.1 a h1 h2)
theorem jZ_cut {C n d : String} {v : Value} {B : Nat → Prop} (hZ : va_Z C n d v A s s.heap) (hS : va_S A s.heap H locs) (hB : ∀ q, B q → A q) : va_Z C n d v B s H := (jZ_at hZ hS).narrow hB
/-- an array of four ints that a static field names: older than the call, not to be written -/
def jX (a : Nat) (f : Nat → Int32) (A : Nat → Prop) (U : State) (H : Heap) : Prop := va_X a 4 f U H ∧ a < H.size ∧ ¬ A a
theorem jX_moved {a : Nat} {f : Nat → Int32} {u U : State} {H : Heap} (hvm : u.vm.Alike U.vm) (h : jX a f A u H) : jX a f A U H := ⟨va_X.moved hvm h.1, h.2⟩
theorem jX_at {a : Nat} {f : Nat → Int32} (h : jX a f A s s.heap) (hS : va_S A s.heap H locs) : jX a f A s H := ⟨h.1.kept (hS.2.1 a h.2.1 h.2.2), Nat.lt_of_lt_of_le h.2.1 hS.1, h.2.2⟩
theorem jX_cut {a : Nat} {f : Nat → Int32} {B : Nat → Prop} (h : jX a f A s s.heap) (hS : va_S A s.heap H locs) (hB : ∀ q, B q → A q) : jX a f B s H := ⟨(jX_at h hS).1, (jX_at h hS).2.1, fun z => h.2.2 (hB a z)⟩
theorem jnewq (hexec : p.tables.exec = Jvm.exec) (hb : c.code = cc) {own C : String} {index : Nat} (hown : s.vm.findClass own = some m.cls) (hclink : (Cond.classLink own index C).before args s = true) (hover : va_AO C s) (hK : va_K D cl tys s) (hP : va_P D cl ws H) (hD : va_D A ws) (hS : va_S A H0 H locs) (hA : ∀ q, H0.size ≤ q → A q)
    {t0 : Nat} {cA0 : ClassId} (ht : tys[t0]? = some (cA0, .object C)) {n : Int32} {N2 : Nat} (hn : ¬ n < 0) (hN : n.toNatClampNeg = N2) (hbytes : N2 * 4 ≤ 536870912) (hcells : cells + 1 ≤ R.cells) (hslots : slots + N2 ≤ R.slots) (hdg : decode cc pc = .ok (.anewarray index, 3))
    (kk : ∀ (q : Nat) (H1 : Heap), va_P D cl (ws ++ [(q, .inl (cA0, N2, .inr (.inr (.inr (.inr (fun _ => none))))))]) H1 → va_D A (ws ++ [(q, .inl (cA0, N2, .inr (.inr (.inr (.inr (fun _ => none))))))]) → va_S A H0 H1 locs → W p l e R s m args below meth c H1 locs (cells + 1) (slots + N2) Q (F0 m (pc + 3) ls (.ref q :: rest))) : W p l e R s m args below meth c H locs cells slots Q (F0 m pc ls (.int n :: rest)) := by
  refine va_newq hexec hb hown hclink hover hK hP hD hS hA hn hN hbytes hcells hslots hdg (fun q cA H1 hK1 hP1 hD1 hS1 => ?_)
  have e : cA = cA0 := by
    obtain ⟨k1, k2, -, -, -, h1⟩ := (hK1.2 tys.length (cA, .object C) (by simp)).2
    obtain ⟨k3, k4, -, -, -, h2⟩ := (hK.2 t0 _ ht).2
    exact Option.some.inj (h1.symm.trans h2)
  subst e
  exact kk q H1 hP1 hD1 hS1
theorem jnewa (hexec : p.tables.exec = Jvm.exec) (hb : c.code = cc) {atype : ArrayType} (harr : (Cond.arrayClass (newarray.typeOf atype)).before args s = true) {ty : FieldType} (hty : newarray.typeOf atype = ty) (hK : va_K D cl tys s) (hP : va_P D cl ws H) (hD : va_D A ws) (hS : va_S A H0 H locs) (hA : ∀ q, H0.size ≤ q → A q)
    {t0 : Nat} {cA0 : ClassId} (ht : tys[t0]? = some (cA0, ty)) {n : Int32} {N2 : Nat} {a0 : vp_A} (ha : ∀ cA : ClassId, vp_cell cA a0 = arrV cA N2 (fun _ => defaultValue ty)) (hn : ¬ n < 0) (hN : n.toNatClampNeg = N2) (hbytes : N2 * componentBytes ty ≤ 536870912) (hcells : cells + 1 ≤ R.cells) (hslots : slots + N2 ≤ R.slots) (hdg : decode cc pc = .ok (.newarray atype, 2))
    (kk : ∀ (q : Nat) (H1 : Heap), va_P D cl (ws ++ [(q, .inl (cA0, a0))]) H1 → va_D A (ws ++ [(q, .inl (cA0, a0))]) → va_S A H0 H1 locs → W p l e R s m args below meth c H1 locs (cells + 1) (slots + N2) Q (F0 m (pc + 2) ls (.ref q :: rest))) : W p l e R s m args below meth c H locs cells slots Q (F0 m pc ls (.int n :: rest)) := by
  refine va_newa hexec hb harr hty hK hP hD hS hA ha hn hN hbytes hcells hslots hdg (fun q cA H1 hK1 hP1 hD1 hS1 => ?_)
  have e : cA = cA0 := by
    have h1 := (hK1.2 tys.length (cA, ty) (by simp)).2
    have h2 := (hK.2 t0 _ ht).2
    subst hty
    cases atype <;> exact Option.some.inj (h1.symm.trans h2)
  subst e
  exact kk q H1 hP1 hD1 hS1
end JX
