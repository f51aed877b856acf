def mjIn (big ws : List Cond) : Prop := ∀ w ∈ ws, w ∈ big
theorem mj_nil {big : List Cond} : mjIn big [] := fun _ h => absurd h List.not_mem_nil
theorem mj_cons {big ws : List Cond} {c : Cond} (h : c ∈ big) (hs : mjIn big ws) : mjIn big (c :: ws) := fun w h9 => (List.mem_cons.mp h9).elim (fun e => e ▸ h) (hs w)
theorem mj_app {big a b : List Cond} (ha : mjIn big a) (hb : mjIn big b) : mjIn big (a ++ b) := fun w h => (List.mem_append.mp h).elim (ha w) (hb w)
theorem mj_good {big ws : List Cond} (hm : mjIn big ws) (h : ws.all goodWord = true) : GoodIn big ws := goodIn_sub hm h
