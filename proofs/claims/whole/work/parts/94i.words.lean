set_option maxRecDepth 20000 in
theorem wsL_law0_r49_in : ∀ w ∈ wsL_law0_r49, w ∈ lw_tbl := fun w h => (goodIn_p wsL_law0_r49 [920, 1594, 929] (by decide +kernel) (by decide +kernel) w h).1
set_option maxRecDepth 20000 in
theorem wsL_law0_r50_in : ∀ w ∈ wsL_law0_r50, w ∈ lw_tbl := fun w h => (goodIn_p wsL_law0_r50 [1598, 1219] (by decide +kernel) (by decide +kernel) w h).1
set_option maxRecDepth 20000 in
theorem wsX60_in : ∀ w ∈ wsX60, w ∈ lw_tbl := fun w h => (goodIn_of (big := lw_tbl) wsX60 (by decide +kernel) w h).1
set_option maxRecDepth 20000 in
theorem wsX70_in : ∀ w ∈ wsX70, w ∈ lw_tbl := fun w h => (goodIn_of (big := lw_tbl) wsX70 (by decide +kernel) w h).1
set_option maxRecDepth 20000 in
theorem wsX20_in : ∀ w ∈ wsX20, w ∈ lw_tbl := fun w h => (goodIn_of (big := lw_tbl) wsX20 (by decide +kernel) w h).1
set_option maxRecDepth 20000 in
theorem wsX00_in : ∀ w ∈ wsX00, w ∈ lw_tbl := fun w h => (goodIn_of (big := lw_tbl) wsX00 (by decide +kernel) w h).1
